import java.io.IOException;
import java.nio.file.Files;
import java.nio.file.Path;
import java.util.HashSet;
import java.util.List;
import java.util.Set;
import java.util.regex.Matcher;
import java.util.regex.Pattern;

/** What README.md tells: its calls answer as it says, and it names every test. */
public final class ReadmeTest {
    private static final Pattern FEED = Pattern.compile("feed\\(bench, \"(.*)\"\\);");
    private static final Pattern CALL = Pattern.compile("bench\\.(declare|canon|type|equal|named)\\(\\); +// ([-+*\\d ]+)(?:: .*)?");
    private static final Pattern OUT = Pattern.compile("// OUT: (.*)");
    private static final Set<String> CALLS = Set.of("declare", "canon", "type", "equal", "named");

    private static int wrong;

    public static void main(String[] args) throws IOException {
        List<String> lines = Files.readAllLines(Path.of("README.md"));
        calls(lines);
        tests(String.join("\n", lines));
        System.out.println(wrong == 0 ? "README.md: all is so" : wrong + " things in README.md are not so");
        if (wrong != 0) System.exit(1);
    }

    private static void due(String what, Object got, Object want) {
        if (got.equals(want)) return;
        wrong++;
        System.out.println(what + " is " + got + ", due is " + want);
    }

    private static void calls(List<String> lines) {
        Bench bench = new Bench();
        Set<String> called = new HashSet<>();
        for (String line : lines) {
            Matcher feed = FEED.matcher(line);
            Matcher call = CALL.matcher(line);
            Matcher out = OUT.matcher(line);
            if (feed.matches()) bench.feed(feed.group(1));
            if (call.matches()) {
                called.add(call.group(1));
                due(line, answer(bench.it, call.group(1)), told(call.group(2)));
            }
            if (out.matches()) due("OUT", bench.out(), out.group(1));
        }
        due("calls that README.md shows", called, CALLS);
    }

    private static int answer(FrameBench bench, String call) {
        switch (call) {
            case "declare": return bench.declare();
            case "canon": return bench.canon();
            case "type": return bench.type();
            case "equal": return bench.equal();
            default: return bench.named();
        }
    }

    /** A number, or a fault as kind + 16 * place. */
    private static int told(String text) {
        Matcher fault = Pattern.compile("(\\d+) \\+ 16 \\* (\\d+)").matcher(text.trim());
        return fault.matches() ? Integer.parseInt(fault.group(1)) + 16 * Integer.parseInt(fault.group(2)) : Integer.parseInt(text.trim());
    }

    private static void tests(String readme) throws IOException {
        try (var files = Files.list(Path.of("src/test/java"))) {
            for (Path file : files.toList()) {
                String name = file.getFileName().toString().replace(".java", "");
                due("`" + name + "` in README.md", readme.contains("`" + name + "`"), true);
            }
        }
    }
}
