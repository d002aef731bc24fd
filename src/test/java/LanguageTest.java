import java.io.PrintWriter;
import java.io.StringWriter;
import java.nio.file.Files;
import java.nio.file.Path;
import java.util.ArrayList;
import java.util.List;
import java.util.Map;
import java.util.Optional;
import java.util.Set;
import java.util.TreeMap;
import java.util.TreeSet;
import java.util.regex.Matcher;
import java.util.regex.Pattern;
import java.util.spi.ToolProvider;
import java.util.stream.Stream;

/** Of ../shared/LANGUAGE.md what the compiled class shows: what it calls, how deep, what it makes. */
public final class LanguageTest {
    private static final Set<String> LIBRARY = Set.of(
            "java/lang/Object.\"<init>\"", "java/lang/Integer.bitCount", "java/lang/Long.bitCount", "java/lang/Math.max");
    private static final Set<String> NEVER = Set.of(
            "athrow", "monitorenter", "monitorexit", "instanceof", "checkcast", "invokedynamic", "anewarray", "multianewarray",
            "drem", "frem", "aastore");
    private static final Pattern CLASS = Pattern.compile("^(?:\\w+ )*class (HallOfClaims[\\w$]*)");
    private static final Pattern METHOD = Pattern.compile("^  (?:[\\w\\[\\]$]+ )*([\\w$]+)\\(.*\\);$");
    private static final Pattern CALL = Pattern.compile("// (?:Interface)?Method (\\S+):\\(");
    private static final Pattern CODE = Pattern.compile("^ +\\d+: (\\w+)");
    private static final int DEEPEST = 8;

    private final Map<String, Set<String>> calls = new TreeMap<>();
    private String type = "";
    private String method = "";

    private LanguageTest() {
    }

    public static void main(String[] args) throws Exception {
        Optional<ToolProvider> javap = ToolProvider.findFirst("javap");
        if (javap.isEmpty()) {
            System.out.println("there is no javap here: LanguageTest asks nothing");
            return;
        }
        new LanguageTest().test(javap.get());
        Checks.end();
    }

    private void test(ToolProvider javap) throws Exception {
        for (String line : told(javap).split("\\R")) {
            read(line);
        }
        Checks.holds("the classes were read", calls.containsKey("HallOfClaims.lots"));
        for (String name : calls.keySet()) {
            Checks.holds("calls at most eight deep, none open twice: " + name, depth(name, new ArrayList<>()) <= DEEPEST);
        }
    }

    private static String told(ToolProvider javap) throws Exception {
        Path place = Path.of(HallOfClaims.class.getProtectionDomain().getCodeSource().getLocation().toURI());
        List<String> words = new ArrayList<>(List.of("-c", "-p"));
        try (Stream<Path> files = Files.list(place)) {
            files.map(Path::toString).filter(f -> f.matches(".*HallOfClaims(\\$\\w+)?\\.class")).sorted().forEach(words::add);
        }
        StringWriter told = new StringWriter();
        javap.run(new PrintWriter(told), new PrintWriter(System.err), words.toArray(new String[0]));
        return told.toString();
    }

    private void read(String line) {
        Matcher begins = CLASS.matcher(line);
        Matcher next = METHOD.matcher(line);
        Matcher called = CALL.matcher(line);
        Matcher code = CODE.matcher(line);
        if (begins.find()) {
            type = begins.group(1);
        } else if (next.find()) {
            method = type + "." + (next.group(1).equals(type) ? "\"<init>\"" : next.group(1));
            calls.computeIfAbsent(method, name -> new TreeSet<>());
        } else if (code.find()) {
            instruction(code.group(1));
            if (called.find()) {
                call(called.group(1));
            }
        }
    }

    private void instruction(String name) {
        Checks.holds("no " + name + " in " + method, !NEVER.contains(name));
        boolean makes = name.equals("new") || name.equals("newarray");
        Checks.holds("made with the object alone: " + method, !makes || method.endsWith("\"<init>\""));
    }

    private void call(String name) {
        if (name.startsWith("java/")) {
            Checks.holds("no library but what is listed: " + name, LIBRARY.contains(name));
        } else {
            calls.get(method).add(name.startsWith("HallOfClaims") ? name : type + "." + name);
        }
    }

    private int depth(String name, List<String> open) {
        if (open.contains(name)) {
            return DEEPEST + 1;
        }
        open.add(name);
        int deepest = 0;
        for (String next : calls.getOrDefault(name, Set.of())) {
            Checks.holds("a method of its own: " + next, calls.containsKey(next));
            deepest = Math.max(deepest, depth(next, open));
        }
        open.remove(open.size() - 1);
        return 1 + deepest;
    }
}
