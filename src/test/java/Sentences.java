import java.io.IOException;
import java.nio.charset.StandardCharsets;
import java.nio.file.Files;
import java.nio.file.Path;

/**
 * What the tests by sentence share. Each test begins with says(..), the words of the sentence that
 * it holds the class to; they must stand in the document, and are told with each wrong answer.
 */
class Sentences {
    static final String NAT = "nat : type . z : nat . s : nat > nat . ";
    static final String PLUS = NAT + "plus : nat > nat > nat > type . pz : { n : nat } plus z n n . "
            + "ps : { m : nat } { n : nat } { k : nat } plus m n k > plus ( s m ) n ( s k ) . ";
    /** A family by a number, an object of each, and a function of two numbers. */
    static final String INDEXED = NAT + "v : nat > type . m : { n : nat } v n . p : nat > nat > nat . ";

    private static final String DOCUMENT = document();

    private static String words = "";
    private static int sentences;
    private static int wrong;

    static void says(String sentence) {
        words = sentence;
        sentences++;
        if (!DOCUMENT.isEmpty() && !DOCUMENT.contains(sentence)) tell("stands nowhere in the document");
    }

    static void end(String test) {
        System.out.println(test + ": " + sentences + " sentences, " + wrong + " answers not as due");
        if (wrong != 0) System.exit(1);
    }

    static void due(String what, int got, int want) {
        if (got != want) tell(what + " answered " + got + ", due is " + want);
    }

    static void due(String what, String got, String want) {
        if (!got.equals(want)) tell(what + " is " + got + ", due is " + want);
    }

    private static void tell(String what) {
        wrong++;
        System.out.println("\"" + words + "\": " + what);
    }

    static int at(int kind, int place) { return kind + 16 * place; }

    static String many(String text, int times) { return text.repeat(times); }

    static Bench with(String signature) {
        Bench bench = new Bench();
        due("declare " + signature, bench.declare(signature), 0);
        return bench;
    }

    /** A declaration behind a signature, and its fault. */
    static void declares(String signature, String text, int want) {
        due("declare " + text, with(signature).declare(text), want);
    }

    static void canonFault(String signature, String text, int want) {
        due("canon " + text, with(signature).canon(text), want);
    }

    static void canons(Bench bench, String text, String want) {
        due("canon " + text, bench.canon(text), 0);
        due("the form of " + text, bench.out(), want);
    }

    static void types(Bench bench, String text, String want) {
        due("type " + text, bench.type(text), 0);
        due("the type of " + text, bench.out(), want);
    }

    static void declareSteps(String signature, String text, int want) {
        Bench bench = with(signature);
        bench.declare(text);
        due("the STEPS of declare " + text, bench.it.count(2), want);
    }

    static void canonSteps(String signature, String text, int want) {
        Bench bench = with(signature);
        bench.canon(text);
        due("the STEPS of canon " + text, bench.it.count(2), want);
    }

    static void typeSteps(String signature, String text, int want) {
        Bench bench = with(signature);
        bench.type(text);
        due("the STEPS of type " + text, bench.it.count(2), want);
    }

    static void equalSteps(String signature, String text, int want) {
        Bench bench = with(signature);
        bench.equal(text);
        due("the STEPS of equal " + text, bench.it.count(2), want);
    }

    private static String document() {
        Path path = Path.of("..", "shared", "DOC.md");
        if (!Files.isReadable(path)) return "";
        try {
            return Files.readString(path, StandardCharsets.UTF_8).replace("&gt;", ">").replaceAll("\\s+", " ");
        } catch (IOException e) {
            return "";
        }
    }
}
