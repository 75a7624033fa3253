import java.io.IOException;
import java.nio.file.Files;
import java.nio.file.Path;
import java.util.HashSet;
import java.util.List;
import java.util.Set;
import java.util.regex.Matcher;
import java.util.regex.Pattern;

/** What can be seen of the rules of LANGUAGE.md in the program's text, by its lines. */
public final class LanguageTest {
    private static final Pattern METHOD = Pattern.compile("^ +((?:public |private |static )*)[a-z\\[\\]]+ ([a-z]\\w*)\\(([^)]*)\\) \\{$");
    private static final Pattern FIELD = Pattern.compile("^ +(private |static |final )*[\\w\\[\\]]+ \\w+( = [^;]*)?;$");
    private static final Set<String> FACE = Set.of("feed", "declare", "canon", "type", "equal", "named", "constant", "size",
            "out", "forget", "count");
    private static int wrong;

    public static void main(String[] args) throws IOException {
        List<String> lines = Files.readAllLines(Path.of("src/main/java/FrameBench.java"));
        words(lines);
        methods(lines);
        classes(lines);
        System.out.println(wrong == 0 ? "language: nothing outside the rules was seen" : wrong + " things outside the rules");
        if (wrong != 0) System.exit(1);
    }

    private static void bad(String what) {
        wrong++;
        System.out.println(what);
    }

    private static void words(List<String> lines) {
        Pattern barred = Pattern.compile("\\b(throw|throws|try|catch|finally|synchronized|assert|import|package|protected|"
                + "Object|Exception|System|Thread|Random|double|float)\\b|->|::|\"");
        boolean comment = false;
        for (int i = 0; i < lines.size(); i++) {
            String line = lines.get(i);
            comment |= line.contains("/*");
            String code = comment ? "" : line.replaceAll("//.*", "");
            if (line.contains("*/")) comment = false;
            if (barred.matcher(code).find()) bad("line " + (i + 1) + ": " + line.trim());
            for (char c : line.toCharArray()) if (c > 126 || c < 32) bad("line " + (i + 1) + ": a sign that is none");
        }
    }

    private static void methods(List<String> lines) {
        Set<String> faces = new HashSet<>();
        for (int i = 0; i < lines.size(); i++) {
            Matcher m = METHOD.matcher(lines.get(i));
            if (!m.matches() || m.group(2).equals("if")) continue;
            String indent = lines.get(i).replaceAll("\\S.*", "");
            int end = i;
            while (!lines.get(end).equals(indent + "}")) end++;
            if (end - i + 1 > 60) bad(m.group(2) + " has " + (end - i + 1) + " lines");
            if (m.group(3).split(",").length > 7) bad(m.group(2) + " has more than seven parameters");
            boolean isPublic = m.group(1).contains("public");
            if (isPublic) faces.add(m.group(2));
            if (!isPublic && FACE.contains(m.group(2))) bad(m.group(2) + " bears the name of a public method");
            if (indent.length() == 4 && !isPublic && !m.group(1).contains("private")) bad(m.group(2) + " is seen outside");
        }
        if (!faces.equals(FACE)) bad("the face is " + faces);
    }

    private static void classes(List<String> lines) {
        int number = 0, fields = 0;
        for (String line : lines) {
            if (line.contains(" class ") && line.endsWith("{")) {
                number++;
                fields = 0;
                if (number > 1 && !line.startsWith("    private static final class ")) bad(line.trim());
            } else if (FIELD.matcher(line).matches() && !line.contains("return ")) {
                String indent = line.replaceAll("\\S.*", "");
                boolean field = line.contains("private ") || indent.length() == 8 && line.contains("static ");
                if (field && line.contains("static ") && !line.contains("final ")) bad("not final: " + line.trim());
                if (field && !line.contains("static ") && ++fields > 20) bad("more than twenty fields: " + line.trim());
            }
        }
        if (number > 12) bad(number + " classes");
    }
}
