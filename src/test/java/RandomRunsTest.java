import java.util.ArrayList;
import java.util.List;
import java.util.Random;

/** Texts made by dice from fixed seeds; FrameBench must answer as the Oracle does. */
public final class RandomRunsTest {
    private static final String NAT = "nat : type . z : nat . s : nat > nat . ";
    private static final String CHURCH = "two : nat = s ( s z ) . id : nat > nat = [ x : nat ] x . "
            + "c2 : ( nat > nat ) > nat > nat = [ f : nat > nat ] [ x : nat ] f ( f x ) . "
            + "c4 : ( nat > nat ) > nat > nat = [ f : nat > nat ] c2 ( c2 f ) . "
            + "c16 : ( nat > nat ) > nat > nat = [ f : nat > nat ] c4 ( c4 f ) . "
            + "k : nat > nat > nat = [ a : nat ] [ b : nat ] a . ";
    private static final String VEC = "vec : nat > type . nil : vec z . cons : { n : nat } vec n > vec ( s n ) . "
            + "rec : { F : nat > nat } { n : nat } vec ( F n ) > vec ( F ( s n ) ) . ";
    private static final String LOGIC = "i : type . o : type . ii : i . pp : o . qq : i > o . imp : o > o > o . all : ( i > o ) > o . pf : o > type . "
            + "impi : { A : o } { B : o } ( pf A > pf B ) > pf ( imp A B ) . "
            + "impe : { A : o } { B : o } pf ( imp A B ) > pf A > pf B . "
            + "alli : { A : i > o } ( { t : i } pf ( A t ) ) > pf ( all A ) . "
            + "alle : { A : i > o } pf ( all A ) > { t : i } pf ( A t ) . ";
    private static final String XS = "x0 : nat . xx3 : nat > nat . x07 : nat . ";

    private final Random dice;
    private int left;

    private RandomRunsTest(long seed) { dice = new Random(seed); }

    public static void main(String[] args) throws InterruptedException {
        // The Oracle goes as deep as its trees are.
        Thread deep = new Thread(null, () -> runAll(args), "runs", 1L << 29);
        deep.start();
        deep.join();
        if (failed) System.exit(1);
    }

    private static boolean failed = true;

    private static void runAll(String[] args) {
        int runs = args.length > 0 ? Integer.parseInt(args[0]) : 1500;
        int from = args.length > 1 ? Integer.parseInt(args[1]) : 0;
        int wrong = 0;
        int[] kinds = new int[32];
        for (int seed = from; seed < from + runs && wrong < 5; seed++) {
            Bench bench = new Bench(true);
            new RandomRunsTest(seed).run(bench, kinds);
            if (bench.differences > 0) {
                System.out.println("seed " + seed + ": " + bench.differences + " answers differ");
                wrong++;
            }
        }
        if (args.length > 0) System.out.println("fault kinds met: " + java.util.Arrays.toString(kinds));
        System.out.println(wrong == 0 ? "random runs: all answers agree" : wrong + " random runs differ");
        failed = wrong != 0;
    }

    private boolean chance(int percent) { return dice.nextInt(100) < percent; }

    private String one(String... of) { return of[dice.nextInt(of.length)]; }

    private void run(Bench bench, int[] kinds) {
        int which = dice.nextInt(4);
        if (which == 3) {
            heavy(bench, kinds);
            return;
        }
        if (which == 2) {
            bench.declare(LOGIC);
        } else {
            bench.declare(NAT + (chance(30) ? XS : "") + CHURCH + VEC);
        }
        for (int turn = 0; turn < 25; turn++) {
            String object = which == 2 ? logic() : which == 1 ? raw() : typed();
            String other = which == 2 ? logic() : which == 1 ? raw() : chance(50) ? typed() : object;
            if (chance(25)) object = mutated(object);
            int answer;
            switch (dice.nextInt(8)) {
                case 0: answer = bench.type(object); break;
                case 1: case 2: answer = bench.equal(object + one(" ; ", ";", ";;", " ") + other); answer = answer < 0 ? -1 - answer : answer == 1 ? 16 : 17; break;
                case 3: answer = bench.declare(one("a", "b", "d1", "z") + one(" : ", ":", ".") + (which == 2 ? one("o", "pf o", "i > o") : one("nat", "vec " + "(" + number(2) + ")", "nat > nat", "nat > type")) + " = " + object + " . " + one("", "e : nat .", "e:type.")); break;
                case 4: answer = bench.declare(one("p", "q", "r") + ": " + (chance(50) ? mutated(rawE(3, 5)) : rawE(3, 5)) + " . "); break;
                default: answer = bench.canon(object); break;
            }
            tally(kinds, answer);
            if (chance(8)) bench.forget(dice.nextInt(4) - 1);
            if (chance(8)) bench.named(one("nat", "z", " s ", "x", "type", "s s", "", "\nz\n"));
        }
    }

    private static void tally(int[] kinds, int answer) {
        kinds[answer < 0 ? 18 : answer > 17 ? answer & 15 : answer]++;
    }

    // ---- what meets the limits

    private static final String TOWERS = "w : type . a : w . p : w > w > w . q : ( w > w ) > w . "
            + "fw : ( w > w > w ) > w . dep : w > type . mk : { x : w } dep x . "
            + "i : w > w = [ x : w ] x . c2 : ( w > w ) > w > w = [ f : w > w ] [ x : w ] f ( f x ) . "
            + "c4 : ( w > w ) > w > w = [ f : w > w ] c2 ( c2 f ) . "
            + "c5 : ( w > w ) > w > w = [ f : w > w ] [ x : w ] f ( c4 f x ) . "
            + "c16 : ( w > w ) > w > w = [ f : w > w ] c4 ( c4 f ) . "
            + "d : w > w = [ x : w ] p x x . l : w > w = [ x : w ] q ( [ y : w ] p y x ) . "
            + "big : ( w > w ) > w > w = [ f : w > w ] c16 ( c16 f ) . ";

    private void heavy(Bench bench, int[] kinds) {
        bench.declare(TOWERS);
        for (int turn = 0; turn < 12; turn++) {
            String one = tower(3), other = chance(50) ? one : tower(3);
            int answer;
            switch (dice.nextInt(7)) {
                case 0: answer = bench.type("mk ( " + one + " )"); break;
                case 1: answer = bench.equal(one + " ; " + other); answer = answer < 0 ? -1 - answer : answer == 1 ? 16 : 17; break;
                case 2: answer = bench.declare("n" + turn + " : dep ( " + one + " ) = mk ( " + other + " ) . m" + turn + " : w . "); break;
                case 3: answer = bench.canon("( [ v : dep ( " + one + " ) ] v ) ( mk ( " + other + " ) )"); break;
                case 4: answer = bench.canon(nested()); break;
                case 5: answer = bench.equal(nested() + " ; " + nested()); answer = answer < 0 ? -1 - answer : answer == 1 ? 16 : 17; break;
                default: answer = bench.canon(one); break;
            }
            tally(kinds, answer);
            if (chance(20)) bench.forget(dice.nextInt(2));
        }
    }

    private String tower(int depth) {
        String seed = depth > 0 && chance(40) ? "( " + tower(depth - 1) + " )" : one("a", "a", "( p a a )", "( i a )");
        switch (dice.nextInt(4)) {
            case 0: return seed.startsWith("(") ? "i " + seed : "i a";
            case 1: return "p " + seed + " " + seed;
            default: return power(2) + " " + seed;
        }
    }

    private String power(int depth) {
        String f = depth > 0 && chance(45) ? "( " + power(depth - 1) + " )" : one("d", "l", "i", "( p a )", "( [ x : w ] p a x )", "( [ x : w ] l ( i x ) )", "( [ x : w ] q ( [ x : w ] x ) )");
        return one("c2", "c4", "c5", "c16", "big") + " " + f;
    }

    /** About as deep, or as long, as may be. */
    private String nested() {
        StringBuilder all = new StringBuilder();
        int deep = 15 + dice.nextInt(8), i;
        switch (dice.nextInt(5)) {
            case 0:
                for (i = 0; i < deep; i++) all.append("i (");
                all.append("a");
                for (i = 0; i < deep; i++) all.append(")");
                return all.toString();
            case 1:
                for (i = 0; i < 2 * deep; i++) all.append("[x:w]");
                return all.append("x").toString();
            case 2:
                all.append("[f:");
                for (i = 0; i < 2 * deep; i++) all.append("w>");
                return all.append("w]f").toString();
            case 3:
                all.append("a");
                for (i = 0; i < 590 + deep; i++) all.append(" a");
                return all.toString();
            default:
                all.append("[f:");
                for (i = 0; i < 2 * deep; i++) all.append("{x:w}");
                return all.append("dep x]a").toString();
        }
    }

    // ---- objects that are mostly well typed, over nat

    private String typed() {
        switch (dice.nextInt(6)) {
            case 0: return vec(dice.nextInt(4), 3);
            case 1: return function(3, new ArrayList<>());
            case 2: return one("c2", "c4", "cons", "s", "rec", "k", "rec c2", "[ g : nat > nat > nat ] g", "c4 s", "rec s", "rec [ n : nat ] n", "rec ( [ n : nat ] k n n ) z nil", "cons z nil",
                    "[ n : nat ] [ v : vec n ] cons ( id n ) v", "[ n : nat ] ( [ v : vec n ] v )", "( [ m : nat ] [ v : vec m ] cons m v ) ( id z )", "[ F : { n : nat } vec n > vec ( s n ) ] F z nil", "( [ F : { n : nat } vec n > vec ( s n ) ] F z ) cons nil");
            default: return number(dice.nextInt(5));
        }
    }

    private String number(int n) {
        left = 12;
        return number(n, new ArrayList<>());
    }

    private String number(int n, List<String> vars) {
        left--;
        if (chance(6)) n += 1;
        if (left < 0 || n == 0) return n == 0 ? (left > 0 && chance(30) ? "( id z )" : "z") : "( s " + number(n - 1, vars) + " )";
        if (n == 2 && chance(30)) return "two";
        switch (dice.nextInt(8)) {
            case 0: return "( id " + number(n, vars) + " )";
            case 1: return "( ( [ y : nat ] s y ) " + number(n - 1, vars) + " )";
            case 2: return n >= 2 ? "( c2 s " + number(n - 2, vars) + " )" : "( s " + number(n - 1, vars) + " )";
            case 3: return n >= 4 ? "( c4 ( [ w : nat ] s w ) " + number(n - 4, vars) + " )" : "( c16 id " + number(n, vars) + " )";
            case 4: return "( k " + number(n, vars) + " " + number(1, vars) + " )";
            case 5: return "( ( [ f : nat > nat ] f " + number(n - 1, vars) + " ) ( [ x : nat ] s x ) )";
            case 6: return "( ( [ x : nat ] [ y : nat ] x ) " + number(n, vars) + " two )";
            default: return "( s " + number(n - 1, vars) + " )";
        }
    }

    private String function(int depth, List<String> vars) {
        left = 10;
        switch (dice.nextInt(6)) {
            case 0: return "[ x : nat ] " + number(2);
            case 1: return "( c2 ( c2 s ) )";
            case 2: return "( [ f : nat > nat ] [ x : nat ] f ( f x ) ) s";
            case 3: return "[ f : nat > nat ] [ f : nat ] s f";
            case 4: return "[ x : nat ] [ v : vec x ] cons x v";
            default: return "k " + number(1);
        }
    }

    private String vec(int n, int depth) {
        if (n == 0) return chance(20) ? "( ( [ v : vec " + number(0) + " ] v ) nil )" : "nil";
        String inner = vec(n - 1, depth - 1);
        if (inner.startsWith("cons") || inner.startsWith("rec")) inner = "( " + inner + " )";
        if (chance(25)) return "rec ( [ m : nat ] m ) " + number(n - 1) + " " + inner;
        if (chance(10)) return "rec id " + number(n - 1) + " " + inner;
        return "cons " + number(n - 1) + " " + inner;
    }

    // ---- proofs

    private String logic() {
        String a = proposition(2), b = proposition(2);
        switch (dice.nextInt(8)) {
            case 0: return "impi " + a + " " + a + " ( [ u : pf " + a + " ] u )";
            case 1: return "impi " + a + " ( imp " + b + " " + a + " ) ( [ u : pf " + a + " ] impi " + b + " " + a + " ( [ v : pf " + b + " ] u ) )";
            case 2: return "[ P : i > o ] alli P ( [ t : i ] alle P " + one("u", "( ( [ w : pf ( all P ) ] w ) u )") + " t )";
            case 3: return "[ P : i > o ] [ u : pf ( all P ) ] alli P ( [ t : i ] alle " + one("P", "( [ y : i ] P y )", "( [ y : i ] P t )") + " u t )";
            case 4: return "[ p : o ] [ q : o ] [ u : pf ( imp p q ) ] [ v : pf p ] impe p q " + one("u v", "v u", "( ( [ w : pf ( imp p q ) ] w ) u ) v", "u");
            case 5: return one("impi", "alli", "alle", "impe", "all", "imp", "pf", "( alle )", "[ P : i > o ] alle P", "alli ( [ t : i ] " + a + " )");
            case 6: return "( [ A : o ] impi A A ) " + a + " ( [ u : pf " + one(a, "( ( [ x : o ] x ) " + a + " )") + " ] u )";
            default: return proposition(4);
        }
    }

    private String proposition(int depth) {
        if (depth <= 0 || chance(15)) return one("pp", "pp", "( qq ii )", "( qq t )", "( all qq )", "( all ( [ x : i ] qq x ) )");
        switch (dice.nextInt(3)) {
            case 0: return "( imp " + proposition(depth - 1) + " " + proposition(depth - 1) + " )";
            case 1: return "( all ( [ t : i ] " + proposition(depth - 1) + " ) )";
            default: return "( ( [ x : o ] x ) " + proposition(depth - 1) + " )";
        }
    }

    // ---- anything that the grammar allows

    private String raw() {
        return rawE(3, 4);
    }

    private String rawE(int depth, int wide) {
        if (depth > 0) {
            switch (dice.nextInt(7)) {
                case 0: return "{ " + variable() + " : " + rawFamily(depth - 1) + " } " + rawE(depth - 1, wide);
                case 1: case 2: return "[ " + variable() + " : " + rawFamily(depth - 1) + " ] " + rawE(depth - 1, wide);
                case 3: return rawFamily(depth - 1) + " > " + rawE(depth - 1, wide);
                default: break;
            }
        }
        StringBuilder all = new StringBuilder(rawP(depth));
        int many = dice.nextInt(wide);
        for (int i = 0; i < many; i++) all.append(chance(90) ? " " : "\n").append(rawP(depth));
        return all.toString();
    }

    private String rawFamily(int depth) {
        if (chance(75)) return one("nat", "nat", "nat", "vec z", "vec x", "( nat )", "( nat > nat )", "vec ( s z )", "( vec ) z", "vec", "vec nat", "vec z z");
        return rawE(depth, 2);
    }

    private String rawP(int depth) {
        if (depth > 0 && chance(35)) return "( " + rawE(depth - 1, 3) + " )";
        return one("z", "z", "s", "x", "y", "f", "two", "id", "nil", "cons", "vec", "nat", "type", "c2", "none");
    }

    private String variable() { return one("x", "y", "f", "z", "typ"); }

    /** One token is dropped, doubled, swapped or another. */
    private String mutated(String text) {
        String[] tokens = text.split(" ");
        int at = dice.nextInt(tokens.length);
        switch (dice.nextInt(4)) {
            case 0: tokens[at] = ""; break;
            case 1: tokens[at] = tokens[at] + " " + tokens[at]; break;
            case 2: { int b = dice.nextInt(tokens.length); String t = tokens[at]; tokens[at] = tokens[b]; tokens[b] = t; break; }
            default: tokens[at] = one("{", "}", "[", "]", "(", ")", ":", ".", "=", ";", ">", "type", "z", "#", "7", "abcdefghijkl", "abcdefghijklm", "s", "\n", "_"); break;
        }
        return String.join(chance(50) ? " " : "  ", tokens).trim();
    }
}
