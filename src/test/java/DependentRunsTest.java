import java.util.ArrayList;
import java.util.List;
import java.util.Random;

/**
 * Well typed texts by dice over types that hang on objects, most of them told in a roundabout way,
 * so that every 7 is a question of EQUAL; FrameBench must answer as the Oracle does. Arguments as
 * for RandomRunsTest.
 */
public final class DependentRunsTest {
    private static final String SIGNATURE = "nat : type . z : nat . s : nat > nat . vec : nat > type . nil : vec z . "
            + "cons : { n : nat } vec n > vec ( s n ) . rec : { F : nat > nat } { n : nat } vec ( F n ) > vec ( F ( s n ) ) . "
            + "eqv : { n : nat } vec n > vec n > type . refl : { n : nat } { v : vec n } eqv n v v . "
            + "all : { n : nat } ( vec n > nat ) > nat . pick : ( { n : nat } vec n > vec n ) > nat . "
            + "id : nat > nat = [ x : nat ] x . k : nat > nat > nat = [ a : nat ] [ b : nat ] a . "
            + "c2 : ( nat > nat ) > nat > nat = [ f : nat > nat ] [ x : nat ] f ( f x ) . "
            + "len : { n : nat } vec n > nat = [ n : nat ] [ v : vec n ] n . "
            + "idv : { n : nat } vec n > vec n = [ n : nat ] [ v : vec n ] v . "
            + "on : { n : nat } { m : nat } ( vec n > vec m ) > vec n > vec m = [ n : nat ] [ m : nat ] [ g : vec n > vec m ] [ v : vec n ] g v . ";

    private static boolean failed = true;

    private final Random dice;
    /** VARS that are numbers, and VARS that are vectors with the number that each hangs on. */
    private final List<String> numbers = new ArrayList<>();
    private final List<String[]> vectors = new ArrayList<>();
    private int names;
    private int left;

    private DependentRunsTest(long seed) { dice = new Random(seed * 0x9E3779B97F4A7C15L); }

    public static void main(String[] args) throws InterruptedException {
        // The Oracle goes as deep as its trees are.
        Thread deep = new Thread(null, () -> runAll(args), "runs", 1L << 29);
        deep.start();
        deep.join();
        if (failed) System.exit(1);
    }

    private static void runAll(String[] args) {
        int runs = args.length > 0 ? Integer.parseInt(args[0]) : 400;
        int from = args.length > 1 ? Integer.parseInt(args[1]) : 0;
        int wrong = 0, asked = 0, taken = 0;
        for (int seed = from; seed < from + runs && wrong < 5; seed++) {
            Bench bench = new Bench(true);
            bench.declare(SIGNATURE);
            DependentRunsTest run = new DependentRunsTest(seed);
            for (int turn = 0; turn < 20; turn++) {
                asked++;
                if (run.ask(bench, turn)) taken++;
            }
            if (bench.differences > 0) {
                System.out.println("seed " + seed + ": " + bench.differences + " answers differ");
                wrong++;
            }
        }
        boolean enough = 2 * taken > asked;
        System.out.println(wrong != 0 ? wrong + " dependent runs differ"
                : (enough ? "" : "too few well typed: ") + taken + " of " + asked + " texts were well typed; all answers agree");
        failed = wrong != 0 || !enough;
    }

    private boolean chance(int percent) { return dice.nextInt(100) < percent; }

    private String one(String... of) { return of[dice.nextInt(of.length)]; }

    /** True if the text was well typed. */
    private boolean ask(Bench bench, int turn) {
        numbers.clear();
        vectors.clear();
        left = 10 + dice.nextInt(15);
        String ahead = binders();
        String n = aClass();
        String object = ahead + object(n);
        switch (dice.nextInt(5)) {
            case 0: return bench.type(object) == 0;
            case 1: return bench.equal(object + " ; " + ahead + object(n)) >= 0;
            case 2: return bench.equal(object + " ; " + (chance(50) ? object : ahead + vector(n, 3))) >= -2;
            case 3: {
                String family = ahead.replace('[', '{').replace(']', '}') + "vec " + number(n, 3);
                return bench.declare("d" + turn + " : " + family + " = " + ahead + vector(n, 3) + " . ") == 0;
            }
            default: return bench.canon(object) == 0;
        }
    }

    private String newNumber() {
        String name = "n" + names++ % 100;
        numbers.add(name);
        return name;
    }

    private String newVector(String n) {
        String name = "v" + names++ % 100;
        vectors.add(new String[] {name, n});
        return name;
    }

    private String binders() {
        StringBuilder text = new StringBuilder();
        for (int i = dice.nextInt(4); i > 0; i--) {
            if (numbers.isEmpty() || chance(40)) {
                text.append("[ ").append(newNumber()).append(" : nat ] ");
            } else {
                String n = aClass();
                String family = number(n, 2);
                text.append("[ ").append(newVector(n)).append(" : vec ").append(family).append(" ] ");
            }
        }
        return text.toString();
    }

    /** A number in its canonical form. */
    private String aClass() {
        String n = numbers.isEmpty() || chance(40) ? "z" : numbers.get(dice.nextInt(numbers.size()));
        for (int i = dice.nextInt(3); i > 0; i--) n = "( s " + n + " )";
        return n;
    }

    private static String before(String n) { return n.substring(4, n.length() - 2); }

    /** One of many ways to tell the number n. */
    private String number(String n, int depth) {
        if (depth <= 0 || left-- <= 0 || chance(2)) return chance(99) ? n : "z";
        int d = depth - 1;
        if (n.startsWith("( s") && chance(40)) {
            return one("( s ", "( ( [ y : nat ] s y ) ", "( ( [ f : nat > nat ] [ y : nat ] f y ) s ") + number(before(n), d) + " )";
        }
        switch (dice.nextInt(7)) {
            case 0: return "( id " + number(n, d) + " )";
            case 1: return "( k " + number(n, d) + " " + number(aClass(), d) + " )";
            case 2: return "( ( [ z : nat ] z ) " + number(n, d) + " )";
            case 3: return "( len " + number(n, d) + " " + vector(n, d) + " )";
            case 4: return "( ( [ f : nat > nat ] f " + number(n, d) + " ) id )";
            case 5: return "( c2 " + one("id", "( [ y : nat ] id y )", "( k " + number(n, d) + " )") + " " + number(n, d) + " )";
            default: return n;
        }
    }

    /** A vector of n; where there is none, a fault. */
    private String vector(String n, int depth) {
        for (int turn = 0; turn < 4 && !vectors.isEmpty(); turn++) {
            String[] known = vectors.get(dice.nextInt(vectors.size()));
            if (known[1].equals(n)) return known[0];
        }
        if (depth <= 0 || left-- <= 0) return plainVector(n);
        int d = depth - 1;
        switch (dice.nextInt(9)) {
            case 0: return "( ( [ w : vec " + number(n, d) + " ] w ) " + vector(n, d) + " )";
            case 1: return "( idv " + number(n, d) + " " + vector(n, d) + " )";
            case 2: return "( ( [ n : nat ] [ w : vec n ] w ) " + number(n, d) + " " + vector(n, d) + " )";
            case 3: return "( ( [ g : { n : nat } vec n > vec n ] g " + number(n, d) + " " + vector(n, d) + " ) "
                    + one("idv", "( [ n : nat ] idv n )", "( [ n : nat ] [ x : vec n ] x )") + " )";
            case 4: return through(n, d);
            case 5: return n.startsWith("( s") ? "( rec " + one("id", "( [ y : nat ] y )", "( c2 id )") + " "
                    + number(before(n), d) + " " + vector(before(n), d) + " )" : plainVector(n);
            case 6: return n.startsWith("( s") ? "( cons " + number(before(n), d) + " " + vector(before(n), d) + " )" : plainVector(n);
            case 7: return "( ( [ F : nat > nat ] [ w : vec ( F " + number(n, d) + " ) ] w ) "
                    + one("id", "( [ y : nat ] y )", "( c2 id )") + " " + vector(n, d) + " )";
            default: return plainVector(n);
        }
    }

    /** By a function from the vectors of another number. */
    private String through(String n, int depth) {
        String m = aClass();
        String from = number(m, depth);
        String argument = vector(m, depth);
        int mark = vectors.size();
        String w = newVector(m);
        String function = "( [ " + w + " : vec " + number(m, depth) + " ] " + vector(n, depth) + " )";
        while (vectors.size() > mark) vectors.remove(vectors.size() - 1);
        return chance(50) ? "( on " + from + " " + number(n, depth) + " " + function + " " + argument + " )"
                : "( ( [ g : vec " + from + " > vec " + number(n, depth) + " ] g " + argument + " ) " + function + " )";
    }

    private String plainVector(String n) {
        if (n.startsWith("( s")) return "( cons " + before(n) + " " + plainVector(before(n)) + " )";
        for (String[] known : vectors) if (known[1].equals(n)) return known[0];
        return "nil";
    }

    private String object(String n) {
        switch (dice.nextInt(7)) {
            case 0: return number(n, 4);
            case 1: return "refl " + number(n, 2) + " " + vector(n, 3);
            case 2: {
                String v = vector(n, 2);
                return "( [ e : eqv " + number(n, 2) + " " + v + " ( idv " + n + " " + v + " ) ] e ) ( refl " + number(n, 1) + " " + v + " )";
            }
            case 3: return "all " + number(n, 2) + " ( [ w : vec " + number(n, 2) + " ] len " + n + " w )";
            case 4: return "pick " + one("idv", "( [ n : nat ] idv ( id n ) )", "( [ n : nat ] [ w : vec n ] on n n ( idv n ) w )");
            case 5: return one("on " + number(n, 2) + " " + number(n, 2), "all " + number(n, 2), "refl", "rec ( [ y : nat ] " + n + " )", "idv " + n,
                    "[ g : { n : nat } vec n > vec n ] g " + number(n, 2), "[ F : nat > nat ] [ w : vec ( F " + n + " ) ] cons ( F " + number(n, 2) + " ) w");
            default: return vector(n, 4);
        }
    }
}
