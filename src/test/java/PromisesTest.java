/**
 * Each promise of the document, told by texts whose answers were worked out by hand. A test begins
 * with the heading of its promise, or of the section that it is about.
 */
public final class PromisesTest extends Sentences {
    private static final String POWERS = NAT + Load.SIGNATURE;

    public static void main(String[] args) {
        newObject();
        feeding();
        tokens();
        reading();
        limitsOfReading();
        sorts();
        families();
        objects();
        definitions();
        scopes();
        checkingSteps();
        canonicalForms();
        printedNames();
        types();
        equality();
        equalitySteps();
        spent();
        deep();
        tooLong();
        naming();
        constants();
        outSigns();
        forgetting();
        counting();
        end("PromisesTest");
    }

    // ---- promise 1

    private static void newObject() {
        says("Promise 1: A new object");
        FrameBench it = new FrameBench();
        for (int what = 0; what < 4; what++) due("new: count " + what, it.count(what), 0);
        due("new: size", it.size(), 0);
        due("new: out", it.out(0), -1);
        due("new: constant", it.constant(0, 0), -1);
        due("new: forget 0", it.forget(0), 0);
        due("new: forget 1", it.forget(1), -1);
        due("new: declare of nothing", it.declare(), 0);
        due("new: named of nothing", it.named(), -1);
        due("new: canon of nothing", it.canon(), at(1, 0));
        due("new: type of nothing", it.type(), at(1, 0));
        due("new: equal of nothing", it.equal(), -1 - at(1, 0));
        FrameBench other = new FrameBench();
        new Bench().declare(NAT);
        due("objects share nothing", other.count(0), 0);
    }

    // ---- promise 2

    private static void feeding() {
        says("Promise 2: feed");
        FrameBench it = new FrameBench();
        due("feed nothing", it.feed(0, 0, 0), 0);
        due("the highest byte comes first", it.feed(Bench.eight("z", 0), Bench.eight("a", 0), 0), 2);
        due("no such constant", it.named(), -1);
        due("a tape that was read is empty", it.count(3), 0);
        due("9, 11, 31, 127, 128, 255 are left out", it.feed(0x090b1f7f80ff0a20L, 0x7e00000000000000L, -1L), 3);
        due("noise", it.canon(), at(1, 2));
        Bench bench = with("ab:type.");
        bench.it.feed(0x6100000000000000L, 0x0062000000000000L, 0);
        due("bytes from a and b, in order", bench.it.named(), 0);
        bench.it.feed(0, 0, 0x6162L);
        due("the lowest bytes of c", bench.it.named(), 0);
        bench.it.feed(0x6100000000000000L, 0, 0);
        due("a second feed goes on", bench.it.feed(0x6200000000000000L, 0, 0), 2);
        due("it was one word", bench.it.named(), 0);
        for (int i = 0; i < 166; i++) bench.feed(many(" ", 24));
        due("166 times 24 signs", bench.it.count(3), 3984);
        due("16 of 24 find room", bench.it.feed(Bench.eight(many(" ", 8), 0), Bench.eight(many(" ", 8), 0), Bench.eight("abababab", 0)), 4000);
        due("a full tape takes nothing", bench.it.feed(Bench.eight("ab", 0), 0, 0), 4000);
        due("what had no room is not there", bench.it.canon(), at(1, 4000));
    }

    // ---- terms 1, promise 3: tokens and reading

    private static void tokens() {
        says("==== 1. TEXTS.");
        declares("", "abcdefghijkl:type.", 0);
        declares("", "abcdefghijklm:type.", at(1, 0));
        declares("", "a1B2:type.", 0);
        declares("", "azAZ09:type.", 0);
        declares("", "@:type.", at(1, 0));
        declares("", "a`:type.", at(1, 1));
        declares("", "1a:type.", at(1, 0));
        declares("", "a\n:\ntype\n.\n", 0);
        declares("", "a:type.b:a.c:a>a.", 0);
        declares("", "a : type . #", at(1, 11));
        declares("", "a_b : type .", at(1, 1));
        declares("", "a : typ .", at(2, 4));
        declares("", "a : types .", at(2, 4));
        declares("", "Type : type .", 0);
        declares("", "a : type & .", at(1, 9));
        declares("", "a:type,", at(1, 6));
    }

    private static void reading() {
        says("Promise 3: declare");
        declares("", "   ", 0);
        declares("", "type : type .", at(1, 0));
        declares("", ": type .", at(1, 0));
        declares("", "a type .", at(1, 2));
        declares("", "a", at(1, 1));
        declares("", "a  ", at(1, 3));
        declares("", "a :", at(1, 3));
        declares("", "a : type", at(1, 8));
        declares("", "a : .", at(1, 4));
        declares("", "a : type ; b : type .", at(1, 9));
        declares("", "a : type . .", at(1, 11));
        declares(NAT, "a : ( nat .", at(1, 10));
        declares(NAT, "a : nat ) .", at(1, 8));
        declares(NAT, "a : ( ) .", at(1, 6));
        declares(NAT, "a : { x : nat ] nat .", at(1, 14));
        declares(NAT, "a : [ x : nat } nat .", at(1, 14));
        declares(NAT, "a : { type : nat } nat .", at(1, 6));
        declares(NAT, "a : { x nat } nat .", at(1, 8));
        declares(NAT, "a : { x : nat } .", at(1, 16));
        declares(NAT, "a : nat > .", at(1, 10));
        declares(NAT, "a : > nat .", at(1, 4));
        declares(NAT, "a : nat { x : nat } nat .", at(1, 8));
        declares(NAT, "a : nat = .", at(1, 10));
        declares(NAT, "a : nat = z = z .", at(1, 12));
        declares(NAT, "a = z .", at(1, 2));
        // All of a declaration is read first, but for the NAME that is told.
        declares(NAT, "a : what > # .", at(1, 11));
        declares(NAT, "nat # .", at(3, 0));
        declares(NAT, "a : nat . s : type .", at(3, 10));
        declares(NAT, "a : nat . b : what . #", at(2, 14));
        Bench bench = with(NAT);
        due("one by one", bench.declare("a : nat . b : a . c : nat ."), at(6, 14));
        due("those ahead are taken", bench.it.count(0), 4);
        due("canon needs the end", bench.canon("s z ;"), at(1, 4));
        due("equal needs the ;", bench.equal("s z"), -1 - at(1, 3));
        due("equal has one ; only", bench.equal("z ; z ; z"), -1 - at(1, 6));
        due("both are read first", bench.equal("what ; ("), -1 - at(1, 8));
        due("then the first one is checked", bench.equal("what ; who"), -1 - at(2, 0));
        due("then the other one", bench.equal("z ; who"), -1 - at(2, 4));
    }

    private static void limitsOfReading() {
        says("At most 600 P, { }, [ ] and > in one E");
        Bench bench = with(NAT);
        // 600 P are read (and z takes no P); the 601st is one too many.
        due("600 P", bench.canon("z" + many(" z", 599)), at(8, 2));
        due("601 P", bench.canon("z" + many(" z", 600)), at(5, 1200));
        due("601 P, and a fault behind", bench.canon("z" + many(" z", 600) + " #"), at(5, 1200));
        due("a fault ahead of the 601st P", bench.canon("#" + many(" z", 600)), at(1, 0));
        due("each E of a query has its own", bench.equal("z" + many(" z", 599) + ";" + "z" + many(" z", 599)), -1 - at(8, 2));
        due("( ) are P", bench.canon("z" + many("(z)", 300)), at(5, 1 + 3 * 299 + 1));
        due("> counts", bench.declare("a : (" + many(" z", 597) + " ) > nat > nat ."), at(5, 5 + 1194 + 9));
        due("{ counts", bench.declare("a : {x : " + many("z ", 599) + "} {y:nat} nat ."), at(5, 9 + 1198 + 2));
        due("[ counts", bench.canon("[x : " + many("z ", 599) + "] [y:nat] z"), at(5, 5 + 1198 + 2));
        // E, ( E ), ..: an E within 19 ( ) stands within 38 others, its P within 39.
        due("19 ( )", bench.canon(many("(", 19) + "z" + many(")", 19)), 0);
        due("20 ( )", bench.canon(many("(", 20) + "z" + many(")", 20)), at(5, 20));
        due("20 ( ) about nothing", bench.canon(many("(", 20) + many(")", 20)), at(1, 20));
        due("20 ( ) about a [", bench.canon(many("(", 20) + "[x:nat]x" + many(")", 20)), at(5, 20));
        due("38 [ ]", bench.canon(many("[x:nat]", 38) + "x"), 0);
        due("39 [ ], at the P of the F", bench.canon(many("[x:nat]", 39) + "x"), at(5, 7 * 38 + 3));
        due("40 E within one another, at the [", bench.canon("z" + many("(z", 19) + "([x:nat]x"), at(5, 1 + 2 * 19 + 1));
        due("38 >", bench.declare("a : " + many("nat>", 38) + "nat ."), 0);
        due("38 wanted", bench.it.constant(3, 1), 38);
        due("39 >", bench.declare("b : " + many("nat>", 39) + "nat ."), at(5, 4 + 4 * 39));
        StringBuilder all = new StringBuilder();
        for (int i = 0; i < 100; i++) all.append("a").append(i).append(":type.");
        Bench full = with(all.toString());
        due("100 constants", full.it.count(0), 100);
        due("the 101st", full.declare(" b : type ."), at(5, 1));
        due("the 101st at its NAME", full.declare(" b #"), at(5, 1));
        due("told, the least", full.declare(" a7 : type ."), at(3, 1));
        due("no NAME, the least", full.declare(" ( "), at(1, 1));
        due("99 are left", full.forget(1), 99);
        due("room again", full.declare("b : type . c : type ."), at(5, 11));
    }

    // ---- terms 1 and 2: sorts

    private static void sorts() {
        says("SORTS.");
        declares(PLUS, "a : type .", 0);
        declares(PLUS, "a : nat > { x : nat } plus x x x > type .", 0);
        declares(PLUS, "a : ( ( nat > ( type ) ) ) .", 0);
        declares(PLUS, "a : z .", at(6, 4));
        declares(PLUS, "a : s z .", at(6, 4));
        declares(PLUS, "a : [ x : nat ] x .", at(6, 4));
        declares(PLUS, "a : { x : nat } x .", at(6, 16));
        declares(PLUS, "a : { x : nat } [ y : nat ] nat .", at(6, 16));
        declares(PLUS, "a : type z .", at(6, 4));
        declares(PLUS, "a : ( type ) z .", at(6, 4));
        declares(PLUS, "a : ( nat ) .", 0);
        declares(PLUS, "a : ( plus z ) z z .", at(6, 4));
        declares(PLUS, "a : ( plus ) z z z .", at(6, 4));
        declares(PLUS, "a : nat > ( what ) z .", at(6, 10));
        declares(PLUS, "a : { x : type } nat .", at(6, 10));
        declares(PLUS, "a : { x : nat > type } nat .", at(6, 16));
        declares(PLUS, "a : type > nat .", at(6, 4));
        declares(PLUS, "a : z > nat .", at(6, 4));
        declares(PLUS, "a : ( [ x : nat ] x ) > nat .", at(6, 6));
        declares(PLUS, "a : ( z ) .", at(6, 6));
        declares(PLUS, "a : type = z .", at(6, 4));
        declares(PLUS, "a : nat > type = z .", at(6, 10));
        declares(PLUS, "a : nat = nat .", at(6, 10));
        declares(PLUS, "a : nat = type .", at(6, 10));
        Bench bench = with(PLUS);
        due("type is no object", bench.canon("type"), at(6, 0));
        due("a family is no object", bench.canon(" nat"), at(6, 1));
        due("{ } is no object", bench.canon("{ x : nat } z"), at(6, 0));
        due("> is no object, at its first token", bench.canon("  what > z"), at(6, 2));
        due("> is no object, with ( ) first", bench.canon(" ( z ) > z"), at(6, 1));
        due("a family with objects ahead of P", bench.canon("plus z z z"), at(6, 0));
        due("an object behind a family", bench.canon("s nat"), at(6, 2));
        due("a family in ( )", bench.canon("s ( nat )"), at(6, 4));
        due("a > in ( )", bench.canon("s ( ( z ) > z )"), at(6, 4));
        due("what stands ahead comes first", bench.canon("s nat what"), at(6, 2));
    }

    // ---- terms 2: faults

    private static void families() {
        says("A family's objects likewise by its KIND, in order.");
        declares(PLUS, "a : plus .", at(4, 4));
        declares(PLUS, "a : plus z z .", at(4, 4));
        declares(PLUS, "a : nat > ( plus z z ) .", at(4, 12));
        declares(PLUS, "a : plus z z z .", 0);
        declares(PLUS, "a : plus z z z z .", at(4, 15));
        declares(PLUS, "a : plus z z z ( what ) z .", at(4, 15));
        declares(PLUS, "a : nat what .", at(4, 8));
        declares(PLUS, "a : plus s z .", at(7, 9));
        declares(PLUS, "a : plus z what .", at(2, 11));
        declares(PLUS, "a : what z .", at(2, 4));
        declares(PLUS, "a : { nat : nat } nat .", at(6, 18));
        declares(PLUS + "le : { x : nat } plus x x x > type . ", "a : le z ( pz z ) .", 0);
        declares(PLUS + "le : { x : nat } plus x x x > type . ", "a : le ( s z ) ( pz z ) .", at(7, 15));
        declares(PLUS, "b : nat . b2 : a . ", at(2, 15));
        declares("", "a : a .", at(2, 4));
    }

    private static void objects() {
        says("==== 2. CHECKING");
        Bench bench = with(PLUS);
        due("no such name", bench.canon("what"), at(2, 0));
        due("no such name behind", bench.canon("s ( s what )"), at(2, 6));
        due("z is no function", bench.canon("z z"), at(8, 2));
        due("s z is no function", bench.canon("s z ( what )"), at(8, 4));
        due("a VAR is no function", bench.canon("[ x : nat ] x x"), at(8, 14));
        due("another type", bench.canon("s s"), at(7, 2));
        due("another type, in ( )", bench.canon("s ( ( pz z ) )"), at(7, 2));
        due("the object ahead comes first", bench.canon("( s s ) what"), at(7, 4));
        due("ahead of 8 comes 7", bench.canon("s s z"), at(7, 2));
        due("a { } and a family", bench.canon("( [ f : nat > nat ] f ) z"), at(7, 24));
        due("another { }", bench.canon("( [ f : nat > nat ] f ) ( [ x : nat ] [ y : nat ] x )"), at(7, 24));
        due("a family that depends", bench.canon("ps z z z ( pz z )"), 0);
        due("and fails", bench.canon("ps z z ( s z ) ( pz z )"), at(7, 15));
        due("a family of [ ] is checked", bench.canon("[ x : what ] z"), at(2, 6));
        due("ahead of what stands behind", bench.canon("[ x : z ] what"), at(6, 6));
        due("[ ] applied", bench.canon("( [ x : nat ] [ p : plus x x x ] p ) z ( pz z )"), 0);
        due("[ ] applied and put in", bench.canon("( [ x : nat ] [ p : plus x x x ] p ) ( s z ) ( pz z )"), at(7, 45));
        due("a type told by an [ ]'s body", bench.canon("( [ x : nat ] pz x ) z z"), at(8, 23));
    }

    private static void definitions() {
        says("(a FAMILY, an OBJECT of that type: a definition)");
        declares(PLUS, "a : nat = s z .", 0);
        declares(PLUS, "a : nat = s .", at(7, 10));
        declares(PLUS, "a : nat = ( s ) .", at(7, 10));
        declares(PLUS, "a : nat > nat = z .", at(7, 16));
        declares(PLUS, "a : nat = s what .", at(2, 12));
        declares(PLUS, "a : what = s .", at(2, 4));
        declares(PLUS, "a : nat = a .", at(2, 10));
        // Definitions are transparent: in types, too.
        declares(PLUS, "one : nat = s z . p : plus z one ( s z ) = pz one . q : plus z one one = pz ( s z ) .", 0);
        declares(PLUS, "one : nat = s z . p : plus z one one = pz z .", at(7, 39));
        Bench bench = with(PLUS + "one : nat = s z . f : nat > nat = [ x : nat ] s ( s x ) . ");
        canons(bench, "f one", "s (s (s z))");
        types(bench, "one", "nat");
        types(bench, "pz ( f one )", "plus z (s (s (s z))) (s (s (s z)))");
    }

    private static void scopes() {
        says("A NAME is the VAR of the nearest { }, [ ] about it");
        Bench bench = with(NAT);
        canons(bench, "[ z : nat ] z", "[x0:nat]x0");
        canons(bench, "[ x : nat ] [ x : nat > nat ] x", "[x0:nat][x1:{x1:nat}nat][x2:nat]x1 x2");
        canons(bench, "[ x : nat > nat ] [ x : nat ] x", "[x0:{x0:nat}nat][x1:nat]x1");
        due("x : x tells of the x outside", bench.canon("[ x : x ] z"), at(2, 6));
        due("behind the ] alone", bench.canon("( [ x : nat ] x ) x"), at(2, 18));
        due("the nearest one", bench.canon("[ x : nat > nat ] [ y : nat ] [ x : nat ] x y"), at(8, 44));
        declares(NAT + "v : nat > type . ", "a : { n : nat } v n > ( v n > v n ) > v n .", 0);
        declares(NAT + "v : nat > type . ", "a : nat > v n .", at(2, 12));
        // Nothing is caught by a VAR of the same name.
        canons(bench, "[ y : nat ] ( [ x : nat ] [ y : nat ] x ) y", "[x0:nat][x1:nat]x0");
        canons(bench, "[ x : nat ] ( [ f : nat > nat ] [ x : nat ] f x ) ( [ q : nat ] x )", "[x0:nat][x1:nat]x0");
    }

    // ---- terms 2: steps

    private static void checkingSteps() {
        says("==== 2. CHECKING takes STEPS");
        declareSteps("", "", 0);
        declareSteps("", "a : type .", 1);
        declareSteps("", "a : type . b : a . c : a .", 3);
        declareSteps(NAT, "a : nat > nat .", 3);
        declareSteps(NAT, "a : { x : nat } nat .", 3);
        declareSteps(NAT, "a : ( ( nat ) ) .", 1);
        // NAME; P, NAME, nat and nat, three times.
        declareSteps(PLUS, "a : plus z z z .", 10);
        // nat, s, P, z, nat and nat, and once more for the definition.
        declareSteps(NAT, "a : nat = s z .", 6);
        // What is wrong has taken its STEP, and nothing behind it has.
        declareSteps(NAT, "a : what .", 1);
        declareSteps(NAT, "a : z .", 1);
        declareSteps(NAT, "a : nat > z > what .", 4);
        declareSteps(NAT, "a : { x : type } nat .", 2);
        declareSteps(NAT, "a : nat z .", 2);
        declareSteps(NAT, "a : ( nat ) z .", 0);
        declareSteps(NAT, "a : nat = z z .", 3);
        declareSteps(NAT, "a : nat = z > z .", 2);
        declareSteps(NAT, "a : # .", 0);
        // plus, P, z, nat and nat; then 4.
        declareSteps(PLUS, "a : plus z .", 4);
        // nat; s, P, s, { } and nat.
        declareSteps(NAT, "a : nat = s s .", 5);
    }

    // ---- promise 4

    private static void canonicalForms() {
        says("Promise 4: canon");
        Bench bench = with(PLUS);
        canons(bench, "z", "z");
        canons(bench, "s ( s z )", "s (s z)");
        canons(bench, "s", "[x0:nat]s x0");
        canons(bench, "pz", "[x0:nat]pz x0");
        canons(bench, "ps z z", "[x0:nat][x1:plus z z x0]ps z z x0 x1");
        canons(bench, "( [ f : nat > nat ] f ( f z ) ) s", "s (s z)");
        canons(bench, "( [ f : nat > nat ] f ( f z ) ) ( [ x : nat ] x )", "z");
        canons(bench, "[ f : ( nat > nat ) > nat ] f s", "[x0:{x0:{x0:nat}nat}nat]x0 ([x1:nat]s x1)");
        canons(bench, "[ F : ( ( nat > nat ) > nat ) > nat ] F ( [ g : nat > nat ] g z )",
                "[x0:{x0:{x0:{x0:nat}nat}nat}nat]x0 ([x1:{x1:nat}nat]x1 z)");
        canons(bench, "[ n : nat ] [ p : plus n ( ( [ x : nat ] s x ) n ) z ] p", "[x0:nat][x1:plus x0 (s x0) z]x1");
        canons(bench, "[ F : { n : nat } ( nat > plus n n n ) > nat ] F z", 
                "[x0:{x0:nat}{x1:{x1:nat}plus x0 x0 x0}nat][x1:{x1:nat}plus z z z]x0 z ([x2:nat]x1 x2)");
        due("a fault", bench.canon("s nat"), at(6, 2));
        due("OUT stays", bench.out(), "[x0:{x0:nat}{x1:{x1:nat}plus x0 x0 x0}nat][x1:{x1:nat}plus z z z]x0 z ([x2:nat]x1 x2)");
        due("its STEPS: z, nat", steps(bench, "z"), 2);
        due("its STEPS: s z", steps(bench, "s z"), 6);
        // s; { }, F', then the body's and x's.
        due("its STEPS: s", steps(bench, "s"), 5);
        // [ ], nat, x; { }, nat, then x by nat with one put in.
        due("its STEPS: [ x : nat ] x", steps(bench, "[ x : nat ] x"), 7);
    }

    private static int steps(Bench bench, String text) {
        bench.canon(text);
        return bench.it.count(2);
    }

    private static void printedNames() {
        says("PRINTED: constants by NAMES; VARS by x");
        canons(with(NAT + "x0 : nat . "), "[ y : nat ] x0", "[xx0:nat]x0");
        canons(with(NAT + "x1 : nat . "), "[ y : nat ] [ q : nat ] y", "[xx0:nat][xx1:nat]xx0");
        canons(with(NAT + "x1 : nat . xx0 : nat . "), "[ y : nat ] y", "[xxx0:nat]xxx0");
        canons(with(NAT + "xx0 : nat . "), "[ y : nat ] y", "[x0:nat]x0");
        canons(with(NAT + "x : nat . x0a : nat . y0 : nat . "), "[ y : nat ] y", "[x0:nat]x0");
        canons(with(NAT + "x07 : nat . x00 : nat . "), "[ y : nat ] y", "[x0:nat]x0");
        canons(with(NAT + "x10 : nat . "), "[ y : nat ] y", "[xx0:nat]xx0");
        Bench bench = with(NAT + "x0 : nat . ");
        bench.forget(1);
        canons(bench, "[ y : nat ] y", "[x0:nat]x0");
        canons(bench, many("[ x : nat ] ", 11) + "x", "[x0:nat][x1:nat][x2:nat][x3:nat][x4:nat][x5:nat][x6:nat][x7:nat][x8:nat][x9:nat][x10:nat]x10");
        canons(with("xxxxxxxxxxx0 : type . a : xxxxxxxxxxx0 ."), "[y:xxxxxxxxxxx0]y", "[x0:xxxxxxxxxxx0]x0");
    }

    // ---- promise 5

    private static void types() {
        says("Promise 5: type");
        Bench bench = with(PLUS);
        types(bench, "z", "nat");
        types(bench, "s", "{x0:nat}nat");
        types(bench, "ps", "{x0:nat}{x1:nat}{x2:nat}{x3:plus x0 x1 x2}plus (s x0) x1 (s x2)");
        types(bench, "ps z ( s z )", "{x0:nat}{x1:plus z (s z) x0}plus (s z) (s z) (s x0)");
        types(bench, "[ f : nat > nat ] pz ( f z )", "{x0:{x0:nat}nat}plus z (x0 z) (x0 z)");
        types(bench, "( [ f : nat > nat ] pz ( f z ) ) ( [ x : nat ] s x )", "plus z (s z) (s z)");
        types(bench, "( [ f : nat > nat ] [ y : nat ] pz ( f y ) ) s", "{x0:nat}plus z (s x0) (s x0)");
        types(bench, "[ F : { f : nat > nat } plus z ( f z ) z ] F s", "{x0:{x0:{x0:nat}nat}plus z (x0 z) z}plus z (s z) z");
        due("a fault", bench.type("nat"), at(6, 0));
        due("OUT stays", bench.out(), "{x0:{x0:{x0:nat}nat}plus z (x0 z) z}plus z (s z) z");
        bench.type("pz z");
        // pz, P, z, nat and nat; plus, z, z, z.
        due("its STEPS", bench.it.count(2), 8);
    }

    // ---- promise 6

    private static void equality() {
        says("Promise 6: equal");
        Bench bench = with(PLUS + "one : nat = s z . ");
        due("z ; z", bench.equal("z ; z"), 1);
        due("z ; one", bench.equal("z ; one"), 0);
        due("one ; s z", bench.equal("one ; s z"), 1);
        due("s ; eta", bench.equal("s ; [ y : nat ] s y"), 1);
        due("two VARS", bench.equal("[ x : nat ] [ y : nat ] x ; [ y : nat ] [ x : nat ] y"), 1);
        due("two other VARS", bench.equal("[ x : nat ] [ y : nat ] x ; [ x : nat ] [ y : nat ] y"), 0);
        due("a VAR and a constant", bench.equal("[ x : nat ] x ; [ x : nat ] z"), 0);
        due("types that differ", bench.equal("s ; z"), -2);
        due("types of other objects", bench.equal("pz z ; pz one"), -2);
        due("types that are EQUAL", bench.equal("pz one ; pz ( s z )"), 1);
        due("types that differ within", bench.equal("[ x : nat ] pz x ; [ x : nat ] pz z"), -2);
        due("the F of [ ] counts", bench.equal("[ f : nat > nat ] z ; [ f : nat ] z"), -2);
        due("functions of functions", bench.equal("[ f : ( nat > nat ) > nat ] f s ; [ f : ( nat > nat ) > nat ] f ( [ x : nat ] s x )"), 1);
        due("a fault of the first", bench.equal("nat ; z"), -1 - at(6, 0));
        due("a fault of the other", bench.equal("z ; z z"), -1 - at(8, 6));
        due("OUT stays", bench.it.size(), 0);
    }

    private static void equalitySteps() {
        says("==== 3. EQUAL.");
        Bench bench = with(PLUS + "one : nat = s z . ");
        bench.equal("z ; z");
        // z, z; nat and nat; z and z.
        due("STEPS of z ; z", bench.it.count(2), 4);
        bench.equal("one ; s z");
        // one; s, P, z, nat; nat; the two, one put in, z and z.
        due("STEPS of one ; s z", bench.it.count(2), 1 + 4 + 1 + 3);
        bench.equal("s ; z");
        due("STEPS of s ; z", bench.it.count(2), 3);
        bench.equal("s z ; z");
        due("STEPS of s z ; z", bench.it.count(2), 4 + 1 + 1 + 1);
    }

    // ---- SPENT, DEEP, too long

    private static void spent() {
        says("one more would be SPENT");
        Bench bench = with(POWERS);
        int before = bench.it.count(1);
        String text = "c256 ( c256 id ) z";
        due("SPENT in canon", bench.canon(text), at(9, text.length()));
        due("a call has 20,000", bench.it.count(2), 20000);
        due("they count in all", bench.it.count(1), before + 20000);
        due("SPENT in equal", bench.equal(text + " ; z"), -1 - at(9, text.length() + 4));
        due("a call has 20,000", bench.it.count(2), 20000);
        due("a small call", bench.canon("z"), 0);
        due("has its own", bench.it.count(2), 2);
        due("SPENT at the 7", bench.declare("v : nat > type . m : { n : nat } v n . d : v z = m ( " + text + " ) ."), at(9, 49));
        due("in all 60,000", bench.it.count(1), 60000);
        due("SPENT at a type", bench.declare("w : type ."), at(9, 4));
        due("SPENT at a NAME", bench.canon(" ( s )"), at(9, 3));
        due("SPENT at a {", bench.declare("w : ( { x : nat } type ) ."), at(9, 6));
        due("SPENT at a >", bench.declare("w : what > type ."), at(9, 9));
        due("SPENT at a [", bench.canon(" [ x : nat ] x"), at(9, 1));
        due("what is read comes first", bench.canon("[ x : nat ] #"), at(1, 12));
        due("nothing was taken", bench.it.count(2), 0);
        due("forgetting gives none back", bench.forget(bench.it.count(0)), 0);
        due("in all 60,000", bench.it.count(1), 60000);
        Bench edge = with(POWERS);
        // A P takes its STEP at its first token: leave 1 STEP for the head alone.
        Load.drain(edge, 59999);
        due("drained", edge.it.count(1), 59999);
        due("SPENT at a P", edge.canon("s ( z )"), at(9, 2));
        due("one STEP", edge.it.count(2), 1);
        Bench last = with(POWERS);
        Load.drain(last, 59998);
        due("drained", last.it.count(1), 59998);
        due("the last two", last.canon("z"), 0);
        due("none is left", last.canon("z"), at(9, 0));
    }

    private static void deep() {
        says("the 101st: DEEP");
        Bench bench = with(POWERS + "c3 : ( nat > nat ) > nat > nat = [ f : nat > nat ] [ x : nat ] f ( c2 f x ) . "
                + "c99 : nat = c16 ( c4 s ) ( c16 ( c2 s ) ( c3 s z ) ) . ");
        due("99 s are 100 questions", bench.canon("c99"), 0);
        due("the form of c99", bench.out(), many("s (", 98) + "s z" + many(")", 98));
        due("DEEP", bench.canon("s c99"), at(10, 5));
        due("OUT stays", bench.it.size(), 3 * 98 + 3 + 98);
        due("equal, not DEEP", bench.equal("c99 ; c99"), 1);
        due("equal, DEEP", bench.equal("s c99 ; s c99"), -1 - at(10, 13));
        due("what is not so ends it first", bench.equal("s c99 ; z"), 0);
        // v and the numbers behind it: one question more.
        bench.declare("v : nat > type . m : { n : nat } v n . c98 : nat = c16 ( c4 s ) ( c16 ( c2 s ) ( c2 s z ) ) . ");
        due("at the 7, not DEEP", bench.declare("a : v c98 = m c98 ."), 0);
        due("at the 7, DEEP", bench.declare("b : v c99 = m c99 ."), at(10, 12));
        due("a P's 7, DEEP", bench.canon("( [ x : v c99 ] z ) ( m c99 )"), at(10, 20));
        due("type, not DEEP", bench.type("m c98"), 0);
        due("type, DEEP", bench.type("m c99"), at(10, 5));
        // DEEP comes ahead of its STEP: s, P, c99, nat; s c99; c99's but for its NAME and its last.
        int whole = steps(bench, "c99");
        due("STEPS of DEEP", steps(bench, "s c99"), 4 + 1 + whole - 2);
        bench.declare("c97 : nat = c16 ( c4 s ) ( c16 ( c2 s ) ( id ( s z ) ) ) . ");
        due("behind a { }, not DEEP", bench.declare("e : nat > v c97 = [ x : nat ] m c97 ."), 0);
        due("behind a { }, DEEP", bench.declare("f : nat > v c98 = [ x : nat ] m c98 ."), at(10, 18));
        due("ahead in a { }, not DEEP", bench.declare("f : v c97 > nat = [ x : v c97 ] z ."), 0);
        due("ahead in a { }, DEEP", bench.declare("g : v c98 > nat = [ x : v c98 ] z ."), at(10, 18));
        due("a { }'s type, not DEEP", bench.type("[ x : nat ] m c97"), 0);
        due("a { }'s type, DEEP", bench.type("[ x : nat ] m c98"), at(10, 17));
        due("a { }'s family, not DEEP", bench.type("[ x : v c97 ] z"), 0);
        due("a { }'s family, DEEP", bench.type("[ x : v c98 ] z"), at(10, 15));
        due("an [ ]'s family, not DEEP", bench.canon("[ x : v c97 ] z"), 0);
        due("an [ ]'s family, DEEP", bench.canon("[ x : v c98 ] z"), at(10, 15));
        due("equal behind an [ ], not DEEP", bench.equal("[ x : nat ] c98 ; [ x : nat ] c98"), 1);
        due("equal behind an [ ], DEEP", bench.equal("[ x : nat ] c99 ; [ x : nat ] c99"), -1 - at(10, 33));
        due("[ ] are questions within", bench.canon("[ x : nat ] c98"), 0);
        due("[ ] are questions within, DEEP", bench.canon("[ x : nat ] c99"), at(10, 15));
    }

    private static void tooLong() {
        says("11 there: it has more than 2,000 signs");
        Bench bench = with("w : type . a : w . p : w > w > w . v : w > type . m : { x : w } v x . "
                + "qqqqqqqqqqqq : w > w . tttttttt : w > w . rrrrrrrrr : w > w . ssssssssss : w > w . "
                + "b : w = p a a . c : w = p b b . d : w = p c c . e : w = p d d . f : w = p e e . g : w = p f f . "
                + "h : w = p g g . i : w = p h h . ");
        // b has 5 signs, and each has 3, and twice the ( ) and what the one ahead has.
        int[] signs = {5, 17, 41, 89, 185, 377, 761, 1529};
        for (int k = 0; k < signs.length; k++) {
            due("canon " + (char) ('b' + k), bench.canon("" + (char) ('b' + k)), 0);
            due("signs of " + (char) ('b' + k), bench.it.size(), signs[k]);
        }
        due("3,065 signs", bench.canon("p i i"), at(11, 5));
        due("OUT stays", bench.it.size(), 1529);
        String text = "p g i";
        for (int i = 0; i < 5; i++) text = "qqqqqqqqqqqq ( " + text + " )";
        due("3 + 379 + 1,531 + 5 * 15 signs", bench.canon(text), 0);
        due("1,988 signs", bench.it.size(), 1988);
        due("1,999 signs", bench.canon("tttttttt ( " + text + " )"), 0);
        due("1,999 signs lie in OUT", bench.it.size(), 1999);
        due("2,000 signs", bench.canon("rrrrrrrrr ( " + text + " )"), 0);
        due("2,000 signs lie in OUT", bench.it.size(), 2000);
        due("the last sign", bench.it.out(1999), ')');
        due("and no more", bench.it.out(2000), -1);
        int whole = bench.it.count(2);
        String over = "ssssssssss ( " + text + " )";
        due("2,001 signs", bench.canon(over), at(11, over.length()));
        due("the 2,001st is the last ), all STEPS were taken", bench.it.count(2), whole);
        due("OUT stays", bench.it.out(0), 'r');
        // All of p i i would take 7 STEPS to check, 1, and for each i 511 and 255 definitions.
        bench.canon("p i i");
        due("the 2,001st ends the work", bench.it.count(2) < 8 + 2 * (511 + 255) ? 1 : 0, 1);
        due("type, 1,533 signs", bench.type("m i"), 0);
        due("type, 1,533 signs lie in OUT", bench.it.size(), 1529 + 4);
        due("type, too long", bench.type("m ( p i i )"), at(11, 11));
    }

    // ---- promises 7 to 12

    private static void naming() {
        says("Promise 7: named");
        Bench bench = with(NAT + "abcdefghijkl : nat . ab : nat = z . ");
        due("nat", bench.named("nat"), 0);
        due("blanks about it", bench.named(" \n s \n "), 2);
        due("twelve letters", bench.named("abcdefghijkl"), 3);
        due("thirteen letters", bench.named("abcdefghijklm"), -1);
        due("a definition", bench.named("ab"), 4);
        due("the start of a name", bench.named("abc"), -1);
        due("another case", bench.named("Nat"), -1);
        due("type", bench.named("type"), -1);
        due("two names", bench.named("nat z"), -1);
        due("in ( )", bench.named("( nat )"), -1);
        due("noise behind", bench.named("nat #"), -1);
        due("nothing", bench.named("  "), -1);
        due("the tape is empty", bench.it.count(3), 0);
        due("STEPS of the latest stay", bench.it.count(2), 1 + 1 + 3 + 1 + 3);
    }

    private static void constants() {
        says("Promise 8: constant");
        Bench bench = with(PLUS + "two : nat = s ( s z ) . f : { x : nat } ( nat > nat ) > nat = [ x : nat ] [ g : nat > nat ] g x . ");
        int[][] want = {{0, 0}, {1, 0}, {1, 1}, {0, 3}, {1, 1}, {1, 4}, {2, 0}, {2, 2}};
        for (int k = 0; k < want.length; k++) {
            due("constant " + k + ", 0", bench.it.constant(k, 0), want[k][0]);
            due("constant " + k + ", 1", bench.it.constant(k, 1), want[k][1]);
            due("constant " + k + ", 2", bench.it.constant(k, 2), -1);
            due("constant " + k + ", -1", bench.it.constant(k, -1), -1);
        }
        due("constant 8", bench.it.constant(8, 0), -1);
        due("constant -1", bench.it.constant(-1, 0), -1);
        due("constant far off", bench.it.constant(Integer.MAX_VALUE, 1), -1);
        due("constant far below", bench.it.constant(Integer.MIN_VALUE, 1), -1);
        Bench kinds = with("a : type . b : a > ( ( a > type ) ) . ");
        due("a KIND in ( )", kinds.it.constant(1, 0), 0);
        due("wants two", kinds.it.constant(1, 1), 2);
    }

    private static void outSigns() {
        says("Promise 9: size");
        Bench bench = with(NAT);
        canons(bench, "s ( s z )", "s (s z)");
        due("size", bench.it.size(), 7);
        says("Promise 10: out");
        due("out 0", bench.it.out(0), 's');
        due("out 1", bench.it.out(1), ' ');
        due("out 6", bench.it.out(6), ')');
        due("out 7", bench.it.out(7), -1);
        due("out -1", bench.it.out(-1), -1);
        due("out far off", bench.it.out(Integer.MAX_VALUE), -1);
        due("out far below", bench.it.out(Integer.MIN_VALUE), -1);
        canons(bench, "z", "z");
        due("a shorter one takes its place", bench.it.out(1), -1);
        bench.declare("a : nat .");
        bench.equal("z ; z");
        bench.named("z");
        bench.forget(1);
        due("others leave it", bench.out(), "z");
    }

    private static void forgetting() {
        says("Promise 11: forget");
        Bench bench = with(NAT + "one : nat = s z . ");
        due("forget -1", bench.forget(-1), -1);
        due("forget 5", bench.forget(5), -1);
        due("forget far off", bench.forget(Integer.MAX_VALUE), -1);
        due("forget far below", bench.forget(Integer.MIN_VALUE), -1);
        due("forget 0", bench.forget(0), 4);
        due("forget 2", bench.forget(2), 2);
        due("s is gone", bench.named("s"), -1);
        due("z is there", bench.named("z"), 1);
        due("no such name", bench.canon("s z"), at(2, 0));
        due("told anew, another", bench.declare("s : nat > nat > nat . one : nat = s z z ."), 0);
        canons(bench, "one", "s z z");
        due("its number", bench.named("one"), 3);
        due("forget all", bench.forget(4), 0);
        due("told anew", bench.declare(NAT), 0);
        // What is forgotten makes room, however often.
        for (int i = 0; i < 300; i++) {
            due("again", bench.declare("d : nat = " + many("s (", 15) + "z" + many(")", 15) + "."), 0);
            due("and forgotten", bench.forget(1), 3);
        }
    }

    private static void counting() {
        says("Promise 12: count");
        Bench bench = with(NAT);
        due("constants", bench.it.count(0), 3);
        due("STEPS in all", bench.it.count(1), 5);
        due("STEPS of the latest", bench.it.count(2), 5);
        due("signs", bench.it.count(3), 0);
        bench.feed("s z");
        due("three signs", bench.it.count(3), 3);
        due("feed takes no STEP", bench.it.count(2), 5);
        bench.canon("");
        due("STEPS of canon", bench.it.count(2), 6);
        due("STEPS in all", bench.it.count(1), 11);
        bench.type("z");
        due("STEPS of type", bench.it.count(2), 2);
        bench.equal("z ; z");
        due("STEPS of equal", bench.it.count(2), 4);
        bench.canon("#");
        due("a fault of reading takes none", bench.it.count(2), 0);
        due("STEPS in all", bench.it.count(1), 17);
        due("count 4", bench.it.count(4), -1);
        due("count -1", bench.it.count(-1), -1);
        due("count far off", bench.it.count(Integer.MIN_VALUE), -1);
    }
}
