import java.nio.file.Files;
import java.nio.file.Path;
import java.util.List;
import java.util.regex.Matcher;
import java.util.regex.Pattern;

/** What of LANGUAGE.md can be seen in the text of the program. */
public final class LanguageTest {
    private static final String[] RULED_OUT = {"->", "::", "\\bfinally\\b", "\\bsynchronized\\b", "\\bassert\\b",
        "\\btry\\b", "\\bpackage\\b", "\\bpublic\\s+static\\s+(?!final)", "Exact\\(", "getMessage", "\\bString\\.format",
        "System\\.(?!arraycopy)", "\\bprotected\\b", "static\\s*\\{", "\\bdouble\\b", "\\bfloat\\b", "\"\\s*\\+",
        "\\+\\s*\"", "\\bhashCode\\b", "\\btoString\\b", "\\bvar\\b", "\\bArrays\\.(?!copyOf|fill)", "\\bnew Thread"};

    public static void main(String[] args) throws Exception {
        List<String> lines = Files.readAllLines(Path.of("src/main/java/BeggarHeaps.java"));
        boolean comment = false;
        for (int i = 0; i < lines.size(); i++) {
            String line = lines.get(i).replaceAll("//.*", "");
            comment = comment || line.contains("/**");
            for (int r = 0; r < RULED_OUT.length && !comment; r++) {
                Matcher m = Pattern.compile(RULED_OUT[r]).matcher(line);
                Checks.due("line " + (i + 1) + " has " + RULED_OUT[r], false, m.find());
            }
            if (line.startsWith("import ")) {
                Checks.dueText("import", "import java.util.NoSuchElementException;", line);
            }
            comment = comment && !line.contains("*/");
        }
        methodsAreShort(lines);
        Checks.finish("LanguageTest");
    }

    // A method ends with the brace that stands under its first sign.
    private static void methodsAreShort(List<String> lines) {
        Pattern head = Pattern.compile("^( {4}| {8})(?! )[^=;]*\\) (throws \\w+ )?\\{$");
        for (int i = 0; i < lines.size(); i++) {
            Matcher m = head.matcher(lines.get(i));
            if (m.find()) {
                int end = i;
                while (end < lines.size() && !lines.get(end).equals(m.group(1) + "}")) {
                    end++;
                }
                Checks.due("the method in line " + (i + 1) + " is short", true, end - i <= 60);
            }
        }
    }
}
