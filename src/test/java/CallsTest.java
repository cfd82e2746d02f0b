import java.io.PrintWriter;
import java.io.StringWriter;
import java.nio.file.DirectoryStream;
import java.nio.file.Files;
import java.nio.file.Path;
import java.util.ArrayList;
import java.util.LinkedHashMap;
import java.util.List;
import java.util.Map;
import java.util.Optional;
import java.util.Set;
import java.util.TreeSet;
import java.util.regex.Matcher;
import java.util.regex.Pattern;
import java.util.spi.ToolProvider;

/** Rules 4, 8 and 11 of LANGUAGE.md as the compiled class shows them: whom it calls, what recurs, how deep calls go. */
public final class CallsTest {
    private static final Set<String> LIBRARY = Set.of("java/lang/Math.max", "java/lang/Math.min",
        "java/lang/Object.<init>", "java/lang/String.charAt", "java/lang/String.length", "java/lang/System.arraycopy",
        "java/util/NoSuchElementException.<init>");
    // Methods that call themselves or one another; the depth is an argument, and a bound of the document keeps it low.
    private static final Set<String> RECURRING = Set.of("BeggarHeaps$Reader.readE", "BeggarHeaps$Reader.readTest",
        "BeggarHeaps$Reader.readSum", "BeggarHeaps$Reader.readProduct", "BeggarHeaps$Reader.readPart",
        "BeggarHeaps$Laying.canWin", "BeggarHeaps$Laying.winsHowever");
    private static final int DEEP_MOST = 8;
    private static final Pattern HEAD = Pattern.compile("^  (?! )(?:[\\w.$\\[\\]]+ )*([\\w$]+)\\([^)]*\\)[^;]*;$");
    private static final Pattern CALL = Pattern.compile("// (?:Interface)?Method (?:([\\w$/]+)\\.)?\"?([\\w<>$]+)\"?:");

    private static final Map<String, Set<String>> CALLS = new LinkedHashMap<>();

    public static void main(String[] args) throws Exception {
        Optional<ToolProvider> javap = ToolProvider.findFirst("javap");
        if (javap.isEmpty()) {
            System.out.println("CallsTest: this Java has no javap, nothing was looked at");
            return;
        }
        Path made = Path.of(BeggarHeaps.class.getProtectionDomain().getCodeSource().getLocation().toURI());
        try (DirectoryStream<Path> files = Files.newDirectoryStream(made, "BeggarHeaps*.class")) {
            for (Path file : files) {
                readClass(javap.get(), file);
            }
        }
        Checks.due("methods were found", true, CALLS.size() > 150);
        Checks.due("calls of turn were found", true, CALLS.get("BeggarHeaps.turn").contains("BeggarHeaps$Game.turnByHand"));
        libraryIsAsListed();
        whatRecursIsKnown();
        callsAreNotDeep();
        Checks.finish("CallsTest");
    }

    private static void readClass(ToolProvider javap, Path file) {
        StringWriter told = new StringWriter();
        StringWriter faults = new StringWriter();
        int code = javap.run(new PrintWriter(told), new PrintWriter(faults), "-c", "-p", file.toString());
        Checks.due("javap of " + file.getFileName(), 0, code);
        String owner = file.getFileName().toString().replace(".class", "");
        Set<String> calls = new TreeSet<>();
        for (String line : told.toString().split("\\R")) {
            Matcher head = HEAD.matcher(line);
            if (head.find()) {
                String name = owner.equals(head.group(1)) ? "<init>" : head.group(1);
                calls = CALLS.computeIfAbsent(owner + "." + name, key -> new TreeSet<>());
            }
            Checks.due("no lambda, no joined text in " + owner, false, line.contains("invokedynamic"));
            Matcher call = CALL.matcher(line);
            if (call.find()) {
                calls.add((call.group(1) == null ? owner : call.group(1)) + "." + call.group(2));
            }
        }
    }

    private static void libraryIsAsListed() {
        for (Map.Entry<String, Set<String>> method : CALLS.entrySet()) {
            for (String called : method.getValue()) {
                boolean own = called.startsWith("BeggarHeaps");
                Checks.due(method.getKey() + " calls " + called, true, own || LIBRARY.contains(called));
            }
        }
    }

    private static void whatRecursIsKnown() {
        for (String method : CALLS.keySet()) {
            boolean recurs = reached(method).contains(method);
            Checks.due(method + " recurs", RECURRING.contains(method), recurs);
        }
    }

    private static Set<String> reached(String from) {
        Set<String> found = new TreeSet<>();
        List<String> open = new ArrayList<>(List.of(from));
        while (!open.isEmpty()) {
            for (String called : CALLS.getOrDefault(open.remove(open.size() - 1), Set.of())) {
                if (found.add(called)) {
                    open.add(called);
                }
            }
        }
        return found;
    }

    private static void callsAreNotDeep() {
        for (String method : CALLS.keySet()) {
            if (method.startsWith("BeggarHeaps.")) {
                Checks.due("calls of " + method + " go eight deep at most", true, deepest(method, 1) <= DEEP_MOST);
            }
        }
    }

    // A ring of methods that call one another counts as one level.
    private static int deepest(String method, int level) {
        int most = level;
        Set<String> ring = new TreeSet<>(Set.of(method));
        if (RECURRING.contains(method)) {
            for (String other : reached(method)) {
                if (RECURRING.contains(other) && reached(other).contains(method)) {
                    ring.add(other);
                }
            }
        }
        for (String member : ring) {
            for (String called : CALLS.getOrDefault(member, Set.of())) {
                if (called.startsWith("BeggarHeaps") && !ring.contains(called)) {
                    most = Math.max(most, deepest(called, level + 1));
                }
            }
        }
        return most;
    }
}
