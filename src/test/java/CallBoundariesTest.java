/** The sentences of the promises 1 to 12, and of what stands ahead of them, that name a boundary case. */
public final class CallBoundariesTest extends Sentences {
    private static final String LOADED = INDEXED + Load.SIGNATURE;
    private static final String DEEP = LOADED + "c3 : ( nat > nat ) > nat > nat = [ f : nat > nat ] [ x : nat ] f ( c2 f x ) . "
            + "n99 : nat > nat = [ x : nat ] c16 ( c4 s ) ( c16 ( c2 s ) ( c3 s x ) ) . ";
    /** b has 5 signs; c, d, .. have 3, twice the ( ) and what the one ahead has: 17, 41, 89, 185, 377, 761, 1,529. */
    private static final String LONG = "w : type . a : w . p : w > w > w . v : w > type . m : { x : w } v x . "
            + "b : w = p a a . c : w = p b b . d : w = p c c . e : w = p d d . f : w = p e e . g : w = p f f . "
            + "h : w = p g g . i : w = p h h . "
            + "oneone : w > w . oneonee : w > w . oneoneee : w > w . q : w > w . ";

    public static void main(String[] args) {
        at512Calls();
        none();
        newObjectHasNoConstant();
        feedTakesUpTo24();
        feedHighestFirst();
        feedLeavesOut();
        declareAnyNumber();
        declareSorts();
        declareOneByOne();
        canonOrItsFault();
        canonSpentOrDeep();
        canonTooLong();
        typeLikewise();
        equalOneOrZero();
        equalTypesFirst();
        equalFaults();
        namedOneName();
        constantWhat();
        constantNone();
        sizeOfOut();
        outNone();
        forgetAll();
        forgetNone();
        countEach();
        countLatest();
        countNone();
        end("CallBoundariesTest");
    }

    private static void at512Calls() {
        says("An object is used for at most 512 calls after it has been made; what later calls answer is free.");
        // Three full TAPES of what is kept: 501 calls to feed, 3 to declare, and 8 more.
        FrameBench bench = new FrameBench();
        int calls = 0;
        for (int k = 0; k < 3; k++) {
            String text = fullTape(k);
            for (int i = 0; i < text.length(); i += 24) {
                bench.feed(Bench.eight(text, i), Bench.eight(text, i + 8), Bench.eight(text, i + 16));
                calls++;
            }
            due("TAPE " + k, bench.declare(), 0);
            calls++;
        }
        due("calls", calls, 504);
        bench.feed(Bench.eight("t230", 0), 0, 0);
        due("the last constant", bench.named(), 4 + 3 * 31 - 1);
        bench.feed(Bench.eight("t230", 0), 0, 0);
        due("its form", bench.canon(), 0);
        due("its size", bench.size(), 1 + 15 * 6 + 15 * 2);
        due("its STEPS", bench.count(2), 1 + 1 + 1 + 30 + 15);
        due("its sort", bench.constant(4 + 3 * 31 - 1, 0), 2);
        due("the 512th call", bench.forget(97), 0);
        Bench later = with(NAT);
        for (int i = 0; i < 2000; i++) later.canon("s ( s z )");
    }

    /** 4,000 signs: 31 definitions of 47 objects each, which are kept. */
    private static String fullTape(int k) {
        StringBuilder text = new StringBuilder(k == 0 ? NAT + "g:" + many("nat>", 30) + "nat." : "");
        for (int i = 0; i < 31; i++) text.append("t").append(k).append(i).append(":nat=g").append(many("(s z)", 15)).append(many(" z", 15)).append(".");
        return text + many(" ", 4000 - text.length());
    }

    private static void none() {
        says("`NONE = -1`: None.");
        due("NONE", FrameBench.NONE, -1);
    }

    private static void newObjectHasNoConstant() {
        says("`FrameBench()`: No constant.");
        FrameBench bench = new FrameBench();
        due("constants", bench.count(0), 0);
        due("STEPS in all", bench.count(1), 0);
        due("STEPS of the latest", bench.count(2), 0);
        due("signs on the TAPE", bench.count(3), 0);
        due("signs in OUT", bench.size(), 0);
        due("sign 0 of OUT", bench.out(0), -1);
        due("constant 0", bench.constant(0, 0), -1);
        due("none to forget", bench.forget(1), -1);
        due("forget 0", bench.forget(0), 0);
        due("type is none", new Bench().named("type"), -1);
        new Bench().declare(NAT);
        due("another object's are not its own", new FrameBench().count(0), 0);
    }

    private static void feedTakesUpTo24() {
        says("Up to 24 signs come behind the TAPE");
        FrameBench bench = new FrameBench();
        due("none", bench.feed(0, 0, 0), 0);
        due("24", bench.feed(0x6162636465666768L, 0x696a6b6c20202020L, 0x2020202020202020L), 24);
        due("none again", bench.feed(0, 0, 0), 24);
        due("1", bench.feed(0, 0, 0x7aL), 25);
        due("they stand behind: two WORDS", bench.named(), -1);
        Bench two = with("abcdefghijkl : type .");
        two.it.feed(0x6162636465666768L, 0x696a6b0000000000L, 0);
        two.it.feed(0, 0x6cL, 0);
        due("one WORD of two feeds", two.it.named(), 0);
    }

    private static void feedHighestFirst() {
        says("the bytes of a, b, c, of each the highest first;");
        Bench bench = with("abcdef : type . fedcba : type .");
        bench.it.feed(0x6162000000000000L, 0x6364000000000000L, 0x6566000000000000L);
        due("a, b, c", bench.it.named(), 0);
        bench.it.feed(0x0000006600000065L, 0x6400000000000063L, 0x0000000000006261L);
        due("whatever is between", bench.it.named(), 1);
        due("a below 0", bench.it.feed(Long.MIN_VALUE | 0x61L, -1L, Long.MIN_VALUE), 1);
    }

    private static void feedLeavesOut() {
        says("others than 10 and 32 .. 126, and what is beyond 4,000, are left out: how many there are.");
        FrameBench bench = new FrameBench();
        due("9, 10, 11, 31, 32, 33, 126, 127", bench.feed(0x090a0b1f20217e7fL, 0, 0), 4);
        due("all of one's", bench.feed(-1L, -1L, -1L), 4);
        due("128 .. 255", bench.feed(0x80818aa0a1fe8affL, 0, 0), 4);
        for (int i = 0; i < 166; i++) bench.feed(0x2020202020202020L, 0x2020202020202020L, 0x2020202020202020L);
        due("3,988", bench.count(3), 3988);
        due("12 of 24", bench.feed(0x2020202020202020L, 0x2020202020202020L, 0x2020202020202020L), 4000);
        due("none of 24", bench.feed(0x2020202020202020L, 0x2020202020202020L, 0x2020202020202020L), 4000);
        bench.declare();
        due("room again", bench.feed(0x20L, 0, 0), 1);
    }

    private static void declareAnyNumber() {
        says("The TAPE is any number of declarations:");
        due("none", new Bench().declare(""), 0);
        due("none but blanks", new Bench().declare(" \n "), 0);
        due("one", new Bench().declare("a:type."), 0);
        StringBuilder all = new StringBuilder();
        for (int i = 0; i < 100; i++) all.append("a").append(i).append(":type.\n");
        Bench bench = new Bench();
        due("a hundred", bench.declare(all.toString()), 0);
        due("a hundred constants", bench.it.count(0), 100);
        due("a . alone is none", new Bench().declare("."), at(1, 0));
        due("two .", new Bench().declare("a:type.."), at(1, 7));
    }

    private static void declareSorts() {
        says("NAME : E . (a KIND: a family; a FAMILY: an object) or NAME : E = E . (a FAMILY, an OBJECT of that type: a definition).");
        Bench bench = with("nat : type . z : nat . d : nat = z . ");
        due("a KIND", bench.it.constant(0, 0), 0);
        due("a FAMILY", bench.it.constant(1, 0), 1);
        due("a definition", bench.it.constant(2, 0), 2);
        declares(NAT, "d : type = nat .", at(6, 4));
        declares(NAT, "d : nat = nat .", at(6, 10));
        declares(NAT, "d : nat = s .", at(7, 10));
        declares(NAT, "d : nat = s z . e : nat = d = z .", at(1, 28));
    }

    private static void declareOneByOne() {
        says("Each that is well formed is taken, one by one; 0, or the fault of the first one that is not, which ends it.");
        Bench bench = new Bench();
        due("the third has a fault", bench.declare("a : type . b : a . c : b . d : a ."), at(6, 23));
        due("two are taken", bench.it.count(0), 2);
        due("the fourth is not", bench.named("d"), -1);
        due("nor the third", bench.named("c"), -1);
        due("each knows those ahead of it", bench.declare("f : a > a . d : a = f b . e : a = f d ."), 0);
        due("none knows those behind it", bench.declare("g : h . h : a ."), at(2, 4));
        due("the first fault", bench.declare("g : a b . h : what ."), at(4, 6));
        due("a fault in reading leaves those ahead", bench.declare("g : a . h :"), at(1, 11));
        due("g is there", bench.named("g"), 5);
    }

    private static void canonOrItsFault() {
        says("The TAPE is an OBJECT: 0, and its CANONICAL FORM lies in OUT; else its fault, and OUT stays.");
        Bench bench = with(DEEP);
        canons(bench, "s ( s z )", "s (s z)");
        String[] texts = {"#", "", "what", "nat", "z z", "s s", "z z ; z", "z .", many("(", 20) + "z", "c256 ( c256 id ) z", "n99 ( s z )"};
        for (String text : texts) {
            due("a fault of " + text, bench.canon(text) > 0 ? 1 : 0, 1);
            due("OUT behind " + text, bench.out(), "s (s z)");
        }
        for (String text : texts) {
            due("a type's fault of " + text, bench.type(text.startsWith("c256") || text.startsWith("n99") ? "m ( " + text + " )" : text) > 0 ? 1 : 0, 1);
            due("OUT behind type of " + text, bench.out(), "s (s z)");
        }
        bench = with(DEEP);
        due("an empty OUT stays", bench.canon("what"), at(2, 0));
        due("an empty OUT", bench.it.size(), 0);
        due("a form that was begun", bench.canon("p z ( n99 ( s z ) )"), at(10, 19));
        due("is not in OUT", bench.it.size(), 0);
    }

    private static void canonSpentOrDeep() {
        says("(9, 10 as it is worked out: at the text's length;");
        due("9", with(DEEP).canon("c256 ( c256 id ) z"), at(9, 18));
        due("9, with blanks behind", with(DEEP).canon("c256 ( c256 id ) z \n "), at(9, 21));
        due("10", with(DEEP).canon("n99 ( s z )"), at(10, 11));
        due("10, with blanks about", with(DEEP).canon("  n99 ( s z )  "), at(10, 15));
        due("9 of a type", with(DEEP).type("m ( c256 ( c256 id ) z ) "), at(9, 25));
        due("10 of a type", with(DEEP).type("m ( n99 z ) "), at(10, 12));
    }

    private static void canonTooLong() {
        says("11 there: it has more than 2,000 signs; the 2,001st ends it as it would be printed.)");
        // p ( q .. ) ( i ): 3, 377 and 2, 1,529 and 2 are 1,913; oneone ( .. ) has 9 more than what it is about.
        String text = "p g i";
        for (int k = 0; k < 8; k++) text = "oneone ( " + text + " )";
        Bench bench = with(LONG);
        due("1,985 signs", bench.canon(text), 0);
        due("1,985", bench.it.size(), 1985);
        due("1,989 signs", bench.canon("q ( " + text + " )"), 0);
        due("1,999 signs", bench.canon("oneonee ( q ( " + text + " ) )"), 0);
        due("1,999", bench.it.size(), 1999);
        String full = "oneoneee ( q ( " + text + " ) )";
        due("2,000 signs", bench.canon(full), 0);
        due("2,000", bench.it.size(), 2000);
        due("the last", bench.it.out(1999), ')');
        due("none behind it", bench.it.out(2000), -1);
        int steps = bench.it.count(2);
        String over = "oneoneee ( oneone ( " + text + " ) ) ";
        due("2,005 signs", bench.canon(over), at(11, over.length()));
        due("OUT stays", bench.it.size(), 2000);
        due("the 2,001st is a ) behind the last a: all STEPS were taken", bench.it.count(2), steps);
        due("a type's 2,000 and more", bench.type("m ( p i i )"), at(11, 11));
        due("OUT stays still", bench.it.size(), 2000);
        // The 2,001st comes ahead of what would be SPENT behind it, and of what would be DEEP.
        String late = "pp : w > w > w > w . id : w > w = [ x : w ] x . c2 : ( w > w ) > w > w = [ f : w > w ] [ x : w ] f ( f x ) . "
                + "c4 : ( w > w ) > w > w = [ f : w > w ] c2 ( c2 f ) . c16 : ( w > w ) > w > w = [ f : w > w ] c4 ( c4 f ) . "
                + "c256 : ( w > w ) > w > w = [ f : w > w ] c16 ( c16 f ) . ";
        String spent = "c256 ( c256 id ) a";
        String first = "pp i h ( " + spent + " )";
        due("11 ahead of 9", with(LONG + late).canon(first), at(11, first.length()));
        String second = "pp i ( " + spent + " ) h";
        due("9 ahead of 11", with(LONG + late).canon(second), at(9, second.length()));
        String third = "pp i h ( c256 q a )";
        due("11 ahead of 10", with(LONG + late).canon(third), at(11, third.length()));
        String fourth = "pp i ( c256 q a ) h";
        due("10 ahead of 11", with(LONG + late).canon(fourth), at(10, fourth.length()));
    }

    private static void typeLikewise() {
        says("Likewise, of the OBJECT's type, a FAMILY.");
        Bench bench = with(INDEXED);
        types(bench, "m ( s z )", "v (s z)");
        types(bench, "[ n : nat ] m n", "{x0:nat}v x0");
        due("what is no OBJECT", bench.type("nat"), at(6, 0));
        due("a KIND is none's type", bench.type("v"), at(6, 0));
        due("nothing", bench.type(""), at(1, 0));
        due("two OBJECTS", bench.type("z ; z"), at(1, 2));
        due("OUT stays", bench.out(), "{x0:nat}v x0");
    }

    private static void equalOneOrZero() {
        says("The TAPE is two OBJECTS, a ; between: 1 if they are EQUAL by the first one's type; 0 if not;");
        Bench bench = with(LOADED);
        due("z ; z", bench.equal("z;z"), 1);
        due("z ; s z", bench.equal("z;s z"), 0);
        due("k4 ; z", bench.equal("k4;z"), 1);
        due("nothing", bench.equal(""), -1 - at(1, 0));
        due("a ; alone", bench.equal(";"), -1 - at(1, 0));
        due("one OBJECT", bench.equal("z"), -1 - at(1, 1));
        due("one OBJECT and a ;", bench.equal("z;"), -1 - at(1, 2));
        due("three OBJECTS", bench.equal("z;z;z"), -1 - at(1, 3));
        due("OUT is not touched", bench.it.size(), 0);
    }

    private static void equalTypesFirst() {
        says("-2: their types are not EQUAL (asked first: the first one's, the other one's);");
        due("s ; z", with(LOADED).equal("s ; z"), -2);
        due("m z ; m ( s z )", with(LOADED).equal("m z ; m ( s z )"), -2);
        due("m z ; m k4", with(LOADED).equal("m z ; m k4"), 1);
        // What would be SPENT as objects is not asked.
        due("types first", with(LOADED).equal("c256 ( c256 id ) z ; s"), -2);
        // Types that are EQUAL: v, and k4 with its 4; then m, and k4 with its 4.
        equalSteps(LOADED, "m k4 ; m z", 4 + 4 + 2 + 4 + 2 + 4);
        equalSteps(LOADED, "m k4 ; m ( s z )", 4 + 7 + 2 + 4);
    }

    private static void equalFaults() {
        says("-1 - the fault otherwise (9, 10 in EQUAL: at the text's length).");
        due("1", with(DEEP).equal("z ; #"), -1 - at(1, 4));
        due("2", with(DEEP).equal("z ; what"), -1 - at(2, 4));
        due("5", with(DEEP).equal("z ; " + many("(", 20) + "z"), -1 - at(5, 24));
        due("6", with(DEEP).equal("nat ; z"), -1 - at(6, 0));
        due("7", with(DEEP).equal("s s ; z"), -1 - at(7, 2));
        due("8", with(DEEP).equal("z z ; z"), -1 - at(8, 2));
        due("9", with(DEEP).equal("c256 ( c256 id ) z ; z "), -1 - at(9, 23));
        due("10", with(DEEP).equal("n99 ( s z ) ; n99 ( s z )  "), -1 - at(10, 27));
        due("9 in the types", with(DEEP).equal("m ( c256 ( c256 id ) z ) ; m z "), -1 - at(9, 31));
        due("10 in the types", with(DEEP).equal("m ( n99 z ) ; m ( n99 z ) "), -1 - at(10, 26));
    }

    private static void namedOneName() {
        says("The TAPE is one NAME: its constant's number, as they were declared; NONE.");
        Bench bench = with(NAT + "abcdefghijkl : nat = z . ");
        String[] names = {"nat", "z", "s", "abcdefghijkl"};
        for (int k = 0; k < names.length; k++) due(names[k], bench.named("\n " + names[k] + " \n"), k);
        for (String text : new String[] {"", " ", "na", "natt", "Nat", "type", "nat z", "(nat)", "nat.", "# nat", "nat #", "abcdefghijklm", "abcdefghijk", "1", ":"}) {
            due(text, bench.named(text), -1);
        }
        bench.forget(1);
        due("a forgotten one", bench.named("abcdefghijkl"), -1);
        due("in a NAME's place anew", bench.declare("b : nat . ") + bench.named("b"), 3);
    }

    private static void constantWhat() {
        says("Of a constant, what 0: 0 a family, 1 an object, 2 a definition; 1: how many objects its type, its KIND wants;");
        Bench bench = with(PLUS + "d : nat = z . e : ( nat > nat ) > ( nat > nat ) = [ f : nat > nat ] f . ");
        int[][] want = {{0, 0}, {1, 0}, {1, 1}, {0, 3}, {1, 1}, {1, 4}, {2, 0}, {2, 2}};
        for (int k = 0; k < want.length; k++) {
            due(k + ", what 0", bench.it.constant(k, 0), want[k][0]);
            due(k + ", what 1", bench.it.constant(k, 1), want[k][1]);
        }
        bench.declare("f : " + many("nat > ", 38) + "type .");
        due("38 are wanted", bench.it.constant(8, 1), 38);
    }

    private static void constantNone() {
        says("NONE: none such.");
        Bench bench = with(NAT);
        for (int k : new int[] {-1, 3, 4, 99, 100, 101, Integer.MIN_VALUE, Integer.MAX_VALUE}) {
            due("constant " + k + ", 0", bench.it.constant(k, 0), -1);
            due("constant " + k + ", 1", bench.it.constant(k, 1), -1);
        }
        for (int what : new int[] {-1, 2, 3, Integer.MIN_VALUE, Integer.MAX_VALUE}) due("what " + what, bench.it.constant(0, what), -1);
        bench.forget(1);
        due("a forgotten one", bench.it.constant(2, 0), -1);
        due("the one ahead of it", bench.it.constant(1, 0), 1);
    }

    private static void sizeOfOut() {
        says("How many signs lie in OUT.");
        Bench bench = with(NAT);
        due("none", bench.it.size(), 0);
        bench.canon("z");
        due("z", bench.it.size(), 1);
        bench.canon("s z");
        due("s z", bench.it.size(), 3);
        bench.type("s");
        due("{x0:nat}nat", bench.it.size(), 11);
        bench.canon("z");
        due("z again", bench.it.size(), 1);
        bench.forget(3);
        due("what is forgotten stays in OUT", bench.it.size(), 1);
    }

    private static void outNone() {
        says("Sign i of OUT; NONE.");
        Bench bench = with(NAT);
        due("of an empty OUT", bench.it.out(0), -1);
        bench.canon("s z");
        due("0", bench.it.out(0), 's');
        due("1", bench.it.out(1), ' ');
        due("2", bench.it.out(2), 'z');
        for (int i : new int[] {3, -1, 1999, 2000, 2001, Integer.MIN_VALUE, Integer.MAX_VALUE}) due("out " + i, bench.it.out(i), -1);
        bench.canon("z");
        due("0 of a shorter one", bench.it.out(0), 'z');
        due("behind a shorter one", bench.it.out(1), -1);
    }

    private static void forgetAll() {
        says("The last n constants (0 .. all) are forgotten: how many are left;");
        Bench bench = with(NAT + "d : nat = s z . ");
        due("0", bench.forget(0), 4);
        due("1", bench.forget(1), 3);
        due("the last one is gone", bench.named("d"), -1);
        due("the one ahead is there", bench.named("s"), 2);
        due("all", bench.forget(3), 0);
        due("0 of none", bench.forget(0), 0);
        due("the first one is gone", bench.named("nat"), -1);
        due("all can be told anew", bench.declare(NAT), 0);
        due("OUT, STEPS and TAPE are not touched", bench.it.count(2), 5);
    }

    private static void forgetNone() {
        says("NONE for another n.");
        Bench bench = with(NAT);
        for (int n : new int[] {-1, 4, 100, Integer.MIN_VALUE, Integer.MAX_VALUE}) due("forget " + n, bench.forget(n), -1);
        due("none was forgotten", bench.it.count(0), 3);
        due("one of none", new Bench().forget(1), -1);
    }

    private static void countEach() {
        says("What 0: constants, 1: STEPS in all, 2: of the latest declare(), canon(), type(), equal(), 3: signs on the TAPE.");
        Bench bench = with(NAT);
        bench.feed("s z");
        due("0", bench.it.count(0), 3);
        due("1", bench.it.count(1), 5);
        due("2", bench.it.count(2), 5);
        due("3", bench.it.count(3), 3);
        bench.it.canon();
        due("1, canon", bench.it.count(1), 11);
        due("2, canon", bench.it.count(2), 6);
        due("3, canon", bench.it.count(3), 0);
        bench.type("s z");
        due("2, type", bench.it.count(2), 5);
        bench.equal("z ; z");
        due("2, equal", bench.it.count(2), 4);
        due("1, all of them", bench.it.count(1), 20);
    }

    private static void countLatest() {
        says("2: of the latest declare(), canon(), type(), equal()");
        Bench bench = with(NAT);
        bench.named("z");
        bench.forget(0);
        bench.it.constant(0, 0);
        due("others are not counted", bench.it.count(2), 5);
        bench.canon("#");
        due("a fault of reading has none", bench.it.count(2), 0);
        bench.declare("a : nat > what .");
        due("a fault of checking has those ahead of it", bench.it.count(2), 3);
        bench.declare("");
        due("a declare of nothing has none", bench.it.count(2), 0);
        due("in all", bench.it.count(1), 8);
    }

    private static void countNone() {
        says("NONE for another what.");
        FrameBench bench = new FrameBench();
        for (int what : new int[] {-1, 4, 5, Integer.MIN_VALUE, Integer.MAX_VALUE}) due("count " + what, bench.count(what), -1);
    }
}
