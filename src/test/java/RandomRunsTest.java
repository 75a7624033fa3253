import java.util.Arrays;
import java.util.Random;

/**
 * Texts made by dice from fixed seeds; FrameBench must answer as the Oracle does. With arguments:
 * how many runs, and from which seed; then it tells, too, how often each kind of answer came.
 */
public final class RandomRunsTest {
    private static final String NAT = "nat : type . z : nat . s : nat > nat . ";
    private static final String CHURCH = "two : nat = s ( s z ) . id : nat > nat = [ x : nat ] x . "
            + "c2 : ( nat > nat ) > nat > nat = [ f : nat > nat ] [ x : nat ] f ( f x ) . "
            + "c4 : ( nat > nat ) > nat > nat = [ f : nat > nat ] c2 ( c2 f ) . "
            + "c16 : ( nat > nat ) > nat > nat = [ f : nat > nat ] c4 ( c4 f ) . "
            + "k : nat > nat > nat = [ a : nat ] [ b : nat ] a . ";
    private static final String VEC = "vec : nat > type . nil : vec z . cons : { n : nat } vec n > vec ( s n ) . "
            + "rec : { F : nat > nat } { n : nat } vec ( F n ) > vec ( F ( s n ) ) . ";
    private static final String XS = "x0 : nat . xx3 : nat > nat . x07 : nat . ";
    private static final String LOGIC = "i : type . o : type . ii : i . pp : o . qq : i > o . "
            + "imp : o > o > o . all : ( i > o ) > o . pf : o > type . "
            + "impi : { A : o } { B : o } ( pf A > pf B ) > pf ( imp A B ) . "
            + "impe : { A : o } { B : o } pf ( imp A B ) > pf A > pf B . "
            + "alli : { A : i > o } ( { t : i } pf ( A t ) ) > pf ( all A ) . "
            + "alle : { A : i > o } pf ( all A ) > { t : i } pf ( A t ) . ";
    private static final String TOWERS = "w : type . a : w . p : w > w > w . q : ( w > w ) > w . "
            + "dep : w > type . mk : { x : w } dep x . i : w > w = [ x : w ] x . "
            + "c2 : ( w > w ) > w > w = [ f : w > w ] [ x : w ] f ( f x ) . "
            + "c4 : ( w > w ) > w > w = [ f : w > w ] c2 ( c2 f ) . "
            + "c5 : ( w > w ) > w > w = [ f : w > w ] [ x : w ] f ( c4 f x ) . "
            + "c16 : ( w > w ) > w > w = [ f : w > w ] c4 ( c4 f ) . "
            + "d : w > w = [ x : w ] p x x . l : w > w = [ x : w ] q ( [ y : w ] p y x ) . "
            + "big : ( w > w ) > w > w = [ f : w > w ] c16 ( c16 f ) . ";

    private static final int EQUAL = 16, NOT_EQUAL = 17, KINDS = 18;
    private static boolean failed = true;

    private final Random dice;
    private final int[] kinds;
    private int left;

    // Seeds that stand beside one another throw alike at first; far apart they do not.
    private RandomRunsTest(long seed, int[] kinds) {
        dice = new Random(seed * 0x9E3779B97F4A7C15L);
        this.kinds = kinds;
    }

    public static void main(String[] args) throws InterruptedException {
        // The Oracle goes as deep as its trees are.
        Thread deep = new Thread(null, () -> runAll(args), "runs", 1L << 29);
        deep.start();
        deep.join();
        if (failed) System.exit(1);
    }

    private static void runAll(String[] args) {
        int runs = args.length > 0 ? Integer.parseInt(args[0]) : 1500;
        int from = args.length > 1 ? Integer.parseInt(args[1]) : 0;
        int wrong = 0;
        int[] kinds = new int[KINDS];
        for (int seed = from; seed < from + runs && wrong < 5; seed++) {
            Bench bench = new Bench(true);
            new RandomRunsTest(seed, kinds).run(bench);
            if (bench.differences > 0) {
                System.out.println("seed " + seed + ": " + bench.differences + " answers differ");
                wrong++;
            }
        }
        if (args.length > 0) System.out.println("answers of each kind: " + Arrays.toString(kinds));
        System.out.println(wrong == 0 ? "random runs: all answers agree" : wrong + " random runs differ");
        failed = wrong != 0;
    }

    private boolean chance(int percent) { return dice.nextInt(100) < percent; }

    private String one(String... of) { return of[dice.nextInt(of.length)]; }

    private void run(Bench bench) {
        switch (dice.nextInt(4)) {
            case 0: {
                bench.declare(LOGIC);
                for (int turn = 0; turn < 25; turn++) ask(bench, proof(), proof(), one("o", "pf o", "i > o", "pf ( all qq )"));
                break;
            }
            case 1: {
                bench.declare(NAT + (chance(30) ? XS : "") + CHURCH + VEC);
                for (int turn = 0; turn < 25; turn++) ask(bench, rawE(3, 4), rawE(3, 4), rawFamily(2));
                break;
            }
            case 2: {
                bench.declare(NAT + (chance(30) ? XS : "") + CHURCH + VEC);
                for (int turn = 0; turn < 25; turn++) {
                    String object = typed();
                    ask(bench, object, chance(50) ? typed() : object, one("nat", "vec ( " + number(2) + " )", "nat > nat", "nat > type"));
                }
                break;
            }
            default: {
                bench.declare(TOWERS);
                for (int turn = 0; turn < 12; turn++) askHeavy(bench, turn);
            }
        }
    }

    private void tally(int answer) { kinds[answer & 15]++; }

    private void tallyEqual(int answer) {
        if (answer < 0) tally(-1 - answer); else kinds[answer == 1 ? EQUAL : NOT_EQUAL]++;
    }

    private void ask(Bench bench, String object, String other, String family) {
        String text = chance(25) ? mutated(object) : object;
        switch (dice.nextInt(8)) {
            case 0:
                tally(bench.type(text));
                break;
            case 1:
            case 2:
                tallyEqual(bench.equal(text + one(" ; ", ";", ";", ";", ";;", " ") + other));
                break;
            case 3:
                tally(bench.declare(one("a", "b", "d1", "z") + one(" : ", ":", ":", ".") + family + " = " + text + " . "
                        + one("", "e : nat .", "e:type.")));
                break;
            case 4: {
                String any = rawE(3, 5);
                tally(bench.declare(one("p", "q", "r") + ": " + (chance(30) ? mutated(any) : any) + " . "));
                break;
            }
            default:
                tally(bench.canon(text));
        }
        if (chance(8)) bench.forget(dice.nextInt(4) - 1);
        if (chance(8)) bench.named(one("nat", "z", " s ", "x", "type", "s s", "", "\nz\n"));
    }

    // ---- what meets the limits

    private void askHeavy(Bench bench, int turn) {
        String object = tower(3), other = chance(50) ? object : tower(3);
        switch (dice.nextInt(10)) {
            case 0: tally(bench.type("mk ( " + object + " )")); break;
            case 1: tallyEqual(bench.equal(object + " ; " + other)); break;
            case 2: tally(bench.declare("n" + turn + " : dep ( " + object + " ) = mk ( " + other + " ) . m" + turn + " : w . ")); break;
            case 3: tally(bench.canon("( [ v : dep ( " + object + " ) ] v ) ( mk ( " + other + " ) )")); break;
            case 4: tally(bench.canon(nested())); break;
            case 5: tallyEqual(bench.equal(nested() + " ; " + nested())); break;
            case 6: tally(bench.canon(bound(object))); break;
            case 7: tally(bench.type(bound(object))); break;
            case 8: tallyEqual(bench.equal(bound(object) + " ; " + bound(other))); break;
            default: tally(bench.canon(object)); break;
        }
        if (chance(20)) bench.forget(dice.nextInt(2));
    }

    private String tower(int depth) {
        String seed = depth > 0 && chance(40) ? "( " + tower(depth - 1) + " )" : one("a", "a", "( p a a )", "( i a )");
        switch (dice.nextInt(4)) {
            case 0: return "i " + seed;
            case 1: return "p " + seed + " " + seed;
            default: return power(2) + " " + seed;
        }
    }

    private String power(int depth) {
        String f = depth > 0 && chance(45) ? "( " + power(depth - 1) + " )"
                : one("d", "l", "i", "( p a )", "( [ x : w ] p a x )", "( [ x : w ] l ( i x ) )", "( [ x : w ] q ( [ x : w ] x ) )");
        return one("c2", "c4", "c5", "c16", "big") + " " + f;
    }

    private String bound(String object) {
        String binders = one("[ x : w ] ", "[ x : dep ( " + object + " ) ] ", "[ f : w > dep ( " + object + " ) ] ",
                "[ f : dep ( " + object + " ) > w ] ", "[ f : { x : w } dep x ] [ y : w ] ");
        return binders + (chance(50) ? binders : "") + one(object, "mk ( " + object + " )", "mk", "f ( " + object + " )", "f");
    }

    /** About as deep, or as long, as may be. */
    private String nested() {
        int deep = 15 + dice.nextInt(8);
        switch (dice.nextInt(5)) {
            case 0: return "i (".repeat(deep) + "a" + ")".repeat(deep);
            case 1: return "[x:w]".repeat(2 * deep) + "x";
            case 2: return "[f:" + "w>".repeat(2 * deep) + "w]f";
            case 3: return "a" + " a".repeat(590 + deep);
            default: return "[f:" + "{x:w}".repeat(2 * deep) + "dep x]a";
        }
    }

    // ---- objects that are mostly well typed, over nat

    private String typed() {
        switch (dice.nextInt(6)) {
            case 0: return vec(dice.nextInt(4));
            case 1: return function();
            case 2: return one("c2", "c4", "cons", "s", "rec", "k", "rec c2", "[ g : nat > nat > nat ] g", "c4 s", "rec s",
                    "rec [ n : nat ] n", "rec ( [ n : nat ] k n n ) z nil", "cons z nil",
                    "[ n : nat ] [ v : vec n ] cons ( id n ) v", "[ n : nat ] ( [ v : vec n ] v )",
                    "( [ m : nat ] [ v : vec m ] cons m v ) ( id z )",
                    "[ F : { n : nat } vec n > vec ( s n ) ] F z nil",
                    "( [ F : { n : nat } vec n > vec ( s n ) ] F z ) cons nil");
            default: return number(dice.nextInt(5));
        }
    }

    private String number(int n) {
        left = 12;
        return numeral(n);
    }

    /** One of many ways to tell n; now and then n + 1. */
    private String numeral(int told) {
        left--;
        int n = chance(6) ? told + 1 : told;
        if (n == 0) return left > 0 && chance(30) ? "( id z )" : "z";
        if (left < 0) return "( s " + numeral(n - 1) + " )";
        if (n == 2 && chance(30)) return "two";
        switch (dice.nextInt(8)) {
            case 0: return "( id " + numeral(n) + " )";
            case 1: return "( ( [ y : nat ] s y ) " + numeral(n - 1) + " )";
            case 2: return n >= 2 ? "( c2 s " + numeral(n - 2) + " )" : "( s " + numeral(n - 1) + " )";
            case 3: return n >= 4 ? "( c4 ( [ w : nat ] s w ) " + numeral(n - 4) + " )" : "( c16 id " + numeral(n) + " )";
            case 4: return "( k " + numeral(n) + " " + numeral(1) + " )";
            case 5: return "( ( [ f : nat > nat ] f " + numeral(n - 1) + " ) ( [ x : nat ] s x ) )";
            case 6: return "( ( [ x : nat ] [ y : nat ] x ) " + numeral(n) + " two )";
            default: return "( s " + numeral(n - 1) + " )";
        }
    }

    private String function() {
        switch (dice.nextInt(6)) {
            case 0: return "[ x : nat ] " + number(2);
            case 1: return "( c2 ( c2 s ) )";
            case 2: return "( [ f : nat > nat ] [ x : nat ] f ( f x ) ) s";
            case 3: return "[ f : nat > nat ] [ f : nat ] s f";
            case 4: return "[ x : nat ] [ v : vec x ] cons x v";
            default: return "k " + number(1);
        }
    }

    private String vec(int n) {
        if (n == 0) return chance(20) ? "( ( [ v : vec " + number(0) + " ] v ) nil )" : "nil";
        String inner = vec(n - 1);
        if (inner.startsWith("cons") || inner.startsWith("rec")) inner = "( " + inner + " )";
        if (chance(25)) return "rec ( [ m : nat ] m ) " + number(n - 1) + " " + inner;
        if (chance(10)) return "rec id " + number(n - 1) + " " + inner;
        return "cons " + number(n - 1) + " " + inner;
    }

    // ---- proofs

    private String proof() {
        String a = proposition(2), b = proposition(2);
        switch (dice.nextInt(8)) {
            case 0: return "impi " + a + " " + a + " ( [ u : pf " + a + " ] u )";
            case 1: return "impi " + a + " ( imp " + b + " " + a + " ) ( [ u : pf " + a + " ] impi " + b + " " + a
                    + " ( [ v : pf " + b + " ] u ) )";
            case 2: return "[ P : i > o ] [ u : pf ( all P ) ] alli P ( [ t : i ] alle P "
                    + one("u", "( ( [ w : pf ( all P ) ] w ) u )", "w") + " t )";
            case 3: return "[ P : i > o ] [ u : pf ( all P ) ] alli P ( [ t : i ] alle "
                    + one("P", "( [ y : i ] P y )", "( [ y : i ] P t )") + " u t )";
            case 4: return "[ p : o ] [ q : o ] [ u : pf ( imp p q ) ] [ v : pf p ] impe p q "
                    + one("u v", "v u", "( ( [ w : pf ( imp p q ) ] w ) u ) v", "u");
            case 5: return one("impi", "alli", "alle", "impe", "all", "imp", "pf", "( alle )", "[ P : i > o ] alle P",
                    "alli ( [ t : i ] " + a + " )");
            case 6: return "( [ A : o ] impi A A ) " + a + " ( [ u : pf " + one(a, "( ( [ x : o ] x ) " + a + " )") + " ] u )";
            default: return proposition(4);
        }
    }

    private String proposition(int depth) {
        if (depth <= 0 || chance(15)) return one("pp", "pp", "( qq ii )", "( qq t )", "( all qq )", "( all ( [ x : i ] qq x ) )");
        switch (dice.nextInt(3)) {
            case 0: return "( imp " + proposition(depth - 1) + " " + proposition(depth - 1) + " )";
            case 1: return "( all ( [ t : i ] " + proposition(depth - 1) + " ) )";
            default: return "( ( [ x : o ] x ) " + proposition(depth - 1) + " )";
        }
    }

    // ---- anything that the grammar allows

    private String rawE(int depth, int wide) {
        if (depth > 0) {
            switch (dice.nextInt(7)) {
                case 0: return "{ " + variable() + " : " + rawFamily(depth - 1) + " } " + rawE(depth - 1, wide);
                case 1:
                case 2: return "[ " + variable() + " : " + rawFamily(depth - 1) + " ] " + rawE(depth - 1, wide);
                case 3: return rawFamily(depth - 1) + " > " + rawE(depth - 1, wide);
                default: break;
            }
        }
        StringBuilder all = new StringBuilder(rawP(depth));
        int many = dice.nextInt(wide);
        for (int i = 0; i < many; i++) all.append(chance(90) ? " " : "\n").append(rawP(depth));
        return all.toString();
    }

    private String rawFamily(int depth) {
        if (chance(25)) return rawE(depth, 2);
        return one("nat", "nat", "nat", "vec z", "vec x", "( nat )", "( nat > nat )", "vec ( s z )", "( vec ) z", "vec",
                "vec nat", "vec z z");
    }

    private String rawP(int depth) {
        if (depth > 0 && chance(35)) return "( " + rawE(depth - 1, 3) + " )";
        return one("z", "z", "s", "x", "y", "f", "two", "id", "nil", "cons", "vec", "nat", "type", "c2", "none");
    }

    private String variable() { return one("x", "y", "f", "z", "typ"); }

    /** One token is dropped, doubled, swapped or another. */
    private String mutated(String text) {
        String[] tokens = text.split(" ");
        int at = dice.nextInt(tokens.length), with = dice.nextInt(tokens.length);
        switch (dice.nextInt(4)) {
            case 0: tokens[at] = ""; break;
            case 1: tokens[at] = tokens[at] + " " + tokens[at]; break;
            case 2: {
                String token = tokens[at];
                tokens[at] = tokens[with];
                tokens[with] = token;
                break;
            }
            default: tokens[at] = one("{", "}", "[", "]", "(", ")", ":", ".", "=", ";", ">", "type", "z", "#", "7",
                    "abcdefghijkl", "abcdefghijklm", "s", "\n", "_");
        }
        return String.join(chance(50) ? " " : "  ", tokens).trim();
    }
}
