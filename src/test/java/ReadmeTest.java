import java.lang.reflect.Method;
import java.nio.file.Files;
import java.nio.file.Path;
import java.util.HashSet;
import java.util.Set;
import java.util.regex.Matcher;
import java.util.regex.Pattern;

/** The example of README.md, line by line, and that README.md tells of every call and of every test. */
public final class ReadmeTest {
    private static final Pattern FED = Pattern.compile("^feed\\(x, \"([^\"]*)\"\\);$");
    private static final Pattern ASKED = Pattern.compile("^x\\.(\\w+)\\(([^)]*)\\); +// (-?\\w+)");

    public static void main(String[] args) throws Exception {
        String readme = Files.readString(Path.of("README.md"));
        BeggarHeaps x = new BeggarHeaps();
        int asked = 0;
        for (String line : readme.split("\\R")) {
            Matcher fed = FED.matcher(line);
            Matcher call = ASKED.matcher(line);
            if (fed.find()) {
                Checks.feed(x, fed.group(1));
            } else if (call.find()) {
                asked++;
                Checks.dueText(line, call.group(3), answer(x, call.group(1), call.group(2)));
            }
        }
        Checks.due("lines of the example", 19, asked);
        tellsOfCallsAndTests(readme);
        Checks.finish("ReadmeTest");
    }

    private static String answer(BeggarHeaps x, String name, String told) throws Exception {
        String[] parts = told.isEmpty() ? new String[0] : told.split(", ");
        for (Method m : BeggarHeaps.class.getMethods()) {
            if (m.getName().equals(name) && m.getParameterCount() == parts.length) {
                Object[] arguments = new Object[parts.length];
                for (int i = 0; i < parts.length; i++) {
                    arguments[i] = Integer.parseInt(parts[i]);
                }
                return String.valueOf(m.invoke(x, arguments));
            }
        }
        return "no such call";
    }

    private static void tellsOfCallsAndTests(String readme) throws Exception {
        Set<String> told = new HashSet<>();
        Matcher quoted = Pattern.compile("`([^`\\n]+)`").matcher(readme);
        while (quoted.find()) {
            told.add(quoted.group(1));
        }
        for (Method m : BeggarHeaps.class.getDeclaredMethods()) {
            if (java.lang.reflect.Modifier.isPublic(m.getModifiers())) {
                Checks.due("README.md tells of " + m.getName(), true, told.contains(m.getName()));
            }
        }
        try (var files = Files.newDirectoryStream(Path.of("src/test/java"), "*Test.java")) {
            for (Path file : files) {
                String name = file.getFileName().toString().replace(".java", "");
                Checks.due("README.md tells of " + name, true, told.contains(name));
            }
        }
    }
}
