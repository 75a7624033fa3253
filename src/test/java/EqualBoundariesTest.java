/** The sentences of section 3 (EQUAL, CANONICAL FORM, PRINTED) that name a boundary case. */
public final class EqualBoundariesTest extends Sentences {
    private static final String LOADED = INDEXED + Load.SIGNATURE;
    /** n99 x is s ( s ( .. x ) ), 99 s. */
    private static final String DEEP = LOADED + "c3 : ( nat > nat ) > nat > nat = [ f : nat > nat ] [ x : nat ] f ( c2 f x ) . "
            + "n99 : nat > nat = [ x : nat ] c16 ( c4 s ) ( c16 ( c2 s ) ( c3 s x ) ) . ";

    public static void main(String[] args) {
        freeOfMistakingVars();
        headFormAsLongAsItCanBe();
        headFormOfADefinition();
        eachIsAStep();
        twoFamilies();
        familiesWithObjects();
        elseTheyAreNot();
        twoObjectsByAFunctionType();
        twoObjectsByAFamily();
        oneHead();
        onlyTheBracesOfATypeCount();
        whatIsNotSoEndsIt();
        steps20000InACall();
        steps20000InADeclare();
        noOtherBoundIsMetFirst();
        steps60000InAll();
        the101stQuestionOfEqual();
        the101stCanonicalForm();
        deepAheadOfItsStep();
        canonicalFormByItsType();
        aStepForEachFamily();
        elseThatOfTheHeadForm();
        withWhatIsAheadPutIn();
        familyAheadOfWhatStandsBehind();
        constantsByNames();
        howManyTheyStandWithin();
        moreXsAhead();
        theFewestForAllAlike();
        bracketsOnlyWhereNeeded();
        arrowIsNeverPrinted();
        end("EqualBoundariesTest");
    }

    private static void freeOfMistakingVars() {
        says("To put N for x is free of mistaking VARS.");
        Bench bench = with(INDEXED);
        canons(bench, "[ y : nat ] ( [ x : nat ] [ y : nat ] p x y ) y", "[x0:nat][x1:nat]p x0 x1");
        canons(bench, "[ y : nat ] ( [ x : nat ] ( [ y : nat ] p x y ) ( s y ) ) y", "[x0:nat]p x0 (s x0)");
        canons(bench, "[ x : nat ] ( [ f : nat > nat ] [ x : nat ] p x ( f x ) ) ( [ y : nat ] p x y )",
                "[x0:nat][x1:nat]p x1 (p x0 x1)");
        types(bench, "[ y : nat ] ( [ x : nat ] [ y : v x ] y ) y", "{x0:nat}{x1:v x0}v x0");
        due("x and y", bench.equal("[ x : nat ] ( [ y : nat ] [ x : nat ] y ) x ; [ a : nat ] [ b : nat ] a"), 1);
        due("x and x", bench.equal("[ x : nat ] ( [ y : nat ] [ x : nat ] y ) x ; [ a : nat ] [ b : nat ] b"), 0);
    }

    private static void headFormAsLongAsItCanBe() {
        says("HEAD FORM of an object: as long as it can be: if it is ([ x : F ] M) N .., M with N put for x, and what is behind;");
        Bench bench = with(INDEXED);
        canons(bench, "( [ x : nat ] [ y : nat ] x ) z ( s z )", "z");
        canons(bench, "( [ f : nat > nat > nat ] f z ) ( [ x : nat ] [ y : nat ] y ) ( s z )", "s z");
        canons(bench, "( [ f : nat > nat ] f ( f z ) ) ( [ x : nat ] x )", "z");
        canons(bench, "( [ x : nat ] s ) z z", "s z");
        canons(bench, "( ( ( [ x : nat ] x ) ) ) ( ( [ x : nat ] x ) z )", "z");
        // What is put and stands nowhere is not looked into.
        due("nowhere", with(LOADED).canon("( [ x : nat ] z ) ( c256 ( c256 id ) z )"), 0);
    }

    private static void headFormOfADefinition() {
        says("if a definition stands at its head, what it is defined as, and what is behind.");
        Bench bench = with(LOADED + "q : nat > nat > nat = p . r : nat > nat = q z . ");
        canons(bench, "r ( s z )", "p z (s z)");
        canons(bench, "r", "[x0:nat]p z x0");
        canons(bench, "k4", "z");
        canons(bench, "[ f : nat > nat ] f k1", "[x0:{x0:nat}nat]x0 z");
        due("one that is defined as the other", bench.equal("q ; p"), 1);
        due("both have one behind them", bench.equal("r ; p z"), 1);
    }

    private static void eachIsAStep() {
        says("Each of these is a STEP.");
        // z takes 2: itself and its canonical form.
        canonSteps(LOADED, "z", 2);
        canonSteps(LOADED, "k1", 2 + 1);
        canonSteps(LOADED, "k4", 2 + 4);
        // [ ], nat, x; P, z, EQUAL; the form, and x put.
        canonSteps(LOADED, "( [ x : nat ] x ) z", 3 + 3 + 1 + 1);
        // id; P, z, EQUAL; the form, id and x put.
        canonSteps(LOADED, "id z", 1 + 3 + 1 + 2);
        canonSteps(LOADED, "( [ x : nat ] [ y : nat ] x ) z z", 5 + 3 + 3 + 1 + 2);
    }

    private static void twoFamilies() {
        says("Two FAMILIES: a STEP; { x : F } G and { y : H } I: F and H, then G and I with a new VAR for both;");
        // The two, then their types, then themselves: { }, and the body, and x.
        equalSteps(NAT, "z ; z", 2 + 1 + 1);
        equalSteps(NAT, "s ; s", 2 + 3 + 3);
        equalSteps(INDEXED, "p ; p", 2 + 5 + 5);
        equalSteps(NAT, "s ; z", 2 + 1);
        due("a new VAR for both", with(INDEXED).equal("[ x : nat ] m x ; [ y : nat ] m y"), 1);
        due("another one", with(INDEXED).equal("[ x : nat ] [ y : nat ] m x ; [ x : nat ] [ y : nat ] m y"), -2);
        // F and H come first: nat > nat and nat are not.
        equalSteps(NAT, "[ f : nat > nat ] s ; [ f : nat ] z", 5 + 3 + 2);
        due("F and H", with(NAT).equal("[ f : nat > nat ] z ; [ f : nat ] z"), -2);
    }

    private static void familiesWithObjects() {
        says("a family with objects: one constant, and the objects, in order, EQUAL by the types that its KIND wants;");
        String two = INDEXED + "w : nat > nat > type . o : { x : nat } { y : nat } w x y . u : ( nat > nat ) > type . e : { f : nat > nat } u f . ";
        due("one constant", with(two).equal("o z z ; o z z"), 1);
        due("another constant", with(two).equal("o z z ; m z"), -2);
        due("the first object", with(two).equal("o z z ; o ( s z ) z"), -2);
        due("the other object", with(two).equal("o z z ; o z ( s z )"), -2);
        due("by the types that its KIND wants", with(two).equal("e s ; e ( [ y : nat ] s y )"), 1);
        due("by the types that its KIND wants, not", with(two).equal("e s ; e ( [ y : nat ] y )"), -2);
        // o, P, z, EQUAL, P, z, EQUAL; o, P, s z with 4, EQUAL, P, z, EQUAL; w, then z and s z.
        equalSteps(two, "o z z ; o ( s z ) z", 7 + 10 + 2);
        equalSteps(two, "o z z ; o z ( s z )", 7 + 10 + 3);
    }

    private static void elseTheyAreNot() {
        says("else they are not.");
        due("a { } and a family", with(INDEXED).equal("s ; z"), -2);
        due("a family and a { }", with(INDEXED).equal("z ; s"), -2);
        due("two families", with(INDEXED).equal("z ; m z"), -2);
        due("a { } more", with(INDEXED).equal("s ; p"), -2);
        due("a { } less", with(INDEXED).equal("p ; s"), -2);
    }

    private static void twoObjectsByAFunctionType() {
        says("Two objects by a type: a STEP; the type is { x : F } G: both with a new VAR behind them, by G;");
        due("s and s x", with(INDEXED).equal("s ; [ y : nat ] s y"), 1);
        due("p and p x y", with(INDEXED).equal("p ; [ x : nat ] [ y : nat ] p x y"), 1);
        due("p and p y x", with(INDEXED).equal("p ; [ x : nat ] [ y : nat ] p y x"), 0);
        due("p z and p z y", with(INDEXED).equal("p z ; [ y : nat ] p z y"), 1);
        due("within", with(INDEXED).equal("[ f : ( nat > nat ) > nat ] f s ; [ f : ( nat > nat ) > nat ] f ( [ y : nat ] s y )"), 1);
        // s; [ ], nat, s, P, y, EQUAL; { }, nat, nat; { }, its body with y put, y.
        equalSteps(NAT, "s ; [ y : nat ] s y", 1 + 6 + 3 + 1 + 1 + 1 + 1);
    }

    private static void twoObjectsByAFamily() {
        says("else: the HEAD FORM of the first one, then of the other one: one VAR or one constant at the head");
        // The first one is SPENT ahead of the other one's end, and the other way about.
        String much = "c256 ( c256 id ) z";
        due("the first one", with(LOADED).equal(much + " ; z"), -1 - at(9, much.length() + 4));
        due("the other one, too, if the first one is z", with(LOADED).equal("z ; " + much), -1 - at(9, much.length() + 4));
        due("the other one, too, if the first one is another", with(LOADED).equal("s z ; " + much), -1 - at(9, much.length() + 6));
        // Both forms, k4 and k3, are STEPS: k4, k3; nat; the question, 4 and 3.
        equalSteps(LOADED, "k4 ; k3", 2 + 1 + 1 + 7);
    }

    private static void oneHead() {
        says("one VAR or one constant at the head, as many objects behind it, EQUAL in order by the types that the head's type wants.");
        Bench bench = with(INDEXED);
        due("one VAR", bench.equal("[ x : nat ] x ; [ y : nat ] y"), 1);
        due("two VARS", bench.equal("[ x : nat ] [ y : nat ] x ; [ x : nat ] [ y : nat ] y"), 0);
        due("a VAR and a constant", bench.equal("[ z : nat ] z ; [ x : nat ] z"), 0);
        due("two constants", bench.equal("s ; [ x : nat ] x"), 0);
        due("the first object", bench.equal("p z z ; p ( s z ) z"), 0);
        due("the other object", bench.equal("p z z ; p z ( s z )"), 0);
        due("both objects", bench.equal("p z ( s z ) ; p z ( s z )"), 1);
        due("behind a VAR", bench.equal("[ f : nat > nat ] f z ; [ f : nat > nat ] f ( s z )"), 0);
    }

    private static void onlyTheBracesOfATypeCount() {
        says("(Only what { } there are in a type, and which constants stand in it, counts there: types need nothing put.)");
        String text = INDEXED + "g : { n : nat } ( v n > v n ) > nat . ";
        due("a { } whose objects hang on what is ahead", with(text).equal("[ y : v z > v z ] g z y ; [ y : v z > v z ] g z ( [ a : v z ] y a )"), 1);
        // { }, g with y put in both, z; y by v n > v n: { }, y, and the VAR behind it; none for n in v n.
        equalSteps(text, "[ y : v z > v z ] g z y ; [ y : v z > v z ] g z y", 2 * checkOfG() + typesOfG() + 1 + 3 + 1 + 3);
    }

    // [ ], >, v z (v, P, z, EQUAL), v z; g, P, z, EQUAL; P, y and EQUAL of { }, v z (v, z), v z.
    private static int checkOfG() { return 2 + 4 + 4 + 4 + 2 + 1 + 2 + 2; }

    // { }; F: { }, v z, v z; then nat.
    private static int typesOfG() { return 1 + 1 + 2 + 2 + 1; }

    private static void whatIsNotSoEndsIt() {
        says("What is not so ends it.");
        due("p z ..", with(LOADED).equal("p z ( c256 ( c256 id ) z ) ; p ( s z ) ( c256 ( c256 id ) z )"), 0);
        // Each takes 10; nat; p, then z and s z.
        equalSteps(INDEXED, "p z ( s z ) ; p ( s z ) z", 10 + 10 + 1 + 2);
        equalSteps(INDEXED, "p ( s z ) z ; p z ( s z )", 10 + 10 + 1 + 2);
        // Of types: m z and s z, v, z and s z; the objects are not asked.
        equalSteps(INDEXED, "m z ; m ( s z )", 4 + 7 + 2);
    }

    private static void exactly(String what, Bench bench, int got, int want) {
        due(what, got, want);
        due(what + ", its STEPS", bench.it.count(2), 20000);
    }

    private static void steps20000InACall() {
        says("In one call of this class at most 20,000 STEPS");
        String just = Load.number(19998);
        Bench bench = with(LOADED);
        exactly("canon, 20,000", bench, bench.canon(just), 0);
        due("its form", bench.out(), "z");
        String over = Load.number(19999);
        bench = with(LOADED);
        exactly("canon, 20,001", bench, bench.canon(over), at(9, over.length()));
        due("no form", bench.out(), "");
        // m, P, EQUAL and v are four more.
        just = "m ( " + Load.number(19994) + " )";
        bench = with(LOADED);
        exactly("type, 20,000", bench, bench.type(just), 0);
        due("its type", bench.out(), "v z");
        over = "m ( " + Load.number(19995) + " )";
        bench = with(LOADED);
        exactly("type, 20,001", bench, bench.type(over), at(9, over.length()));
        // The other z and the types are two more.
        just = Load.number(19996) + " ; z";
        bench = with(LOADED);
        exactly("equal, 20,000", bench, bench.equal(just), 1);
        over = "z ; " + Load.number(19997);
        bench = with(LOADED);
        exactly("equal, 20,001", bench, bench.equal(over), -1 - at(9, over.length()));
        // In the types: m, P, EQUAL; m, P, z, EQUAL; v: then z, another one, is 8 more than canon's.
        over = "m ( " + Load.number(19991) + " ) ; m z";
        bench = with(LOADED);
        exactly("equal, 20,001 in the types", bench, bench.equal(over), -1 - at(9, over.length()));
        due("the next call has its own", bench.canon("z"), 0);
        due("its STEPS", bench.it.count(2), 2);
    }

    private static void steps20000InADeclare() {
        says("In one call of this class at most 20,000 STEPS, in all 60,000: one more would be SPENT.");
        // v, P, z, EQUAL; m, P, EQUAL; v: 8 more than canon's.
        Bench bench = with(LOADED);
        exactly("declare, 20,000", bench, bench.declare("d : v z = m ( " + Load.number(19990) + " ) ."), 0);
        bench = with(LOADED);
        exactly("declare, 20,001", bench, bench.declare("d : v z = m ( " + Load.number(19991) + " ) ."), at(9, 10));
        due("it is not taken", bench.named("d"), -1);
        String first = "d : v z = m ( " + Load.number(19989) + " ) . ";
        bench = with(LOADED);
        exactly("two declarations, 20,000", bench, bench.declare(first + "e : type ."), 0);
        bench = with(LOADED);
        exactly("two declarations, 20,001", bench, bench.declare(first + "e : ( nat > type ) ."), at(9, first.length() + 6));
        due("the first one is taken", bench.named("d"), bench.it.count(0) - 1);
        bench = with(LOADED);
        exactly("what is read first has no STEP", bench, bench.declare(first + "e : type . #"), at(1, first.length() + 11));
    }

    private static void noOtherBoundIsMetFirst() {
        says("at most 20,000 STEPS, in all 60,000: one more would be SPENT.");
        // g wants 38: one with 38 z is 39 questions, 2 STEPS more as a definition on both sides.
        String wide = LOADED + "g : " + many("nat > ", 38) + "nat . d1 : nat = g" + many(" z", 38) + " . d2 : nat = g" + many(" d1", 38) + " . ";
        int one = 39 + 2;
        int two = 1 + 38 * one + 2;
        String text = "g" + many(" d2", 12) + many(" z", 26);
        int check = 1 + 38 * 3;
        Bench bench = with(wide);
        due("18,000 questions behind one another", bench.equal(text + " ; " + text), 1);
        due("their STEPS", bench.it.count(2), 2 * check + 1 + 1 + 12 * two + 26);
        // The same in a 7 of many P: u ( d2 ) is asked as often.
        bench = with(wide + "u : nat > type . r : { x : nat } u x . t : " + many("u d2 > ", 12) + "nat . ");
        // t; for each P, r, P, d2, EQUAL of nat; EQUAL of u and of d2; nat.
        due("in the 7 of twelve P", bench.type("t" + many(" ( r d2 )", 12)), 0);
        due("its STEPS", bench.it.count(2), 1 + 12 * (4 + 1 + 1 + two) + 1);
        // One head form that puts some 9,000 objects, none of which is let go ahead of its end.
        String long20000 = Load.number(19998);
        bench = with(LOADED);
        due("one HEAD FORM", bench.canon(long20000), 0);
        // Within 99 questions, each with 38 objects on both sides, a HEAD FORM that takes what is left.
        StringBuilder deep = new StringBuilder(LOADED + "g : " + many("nat > ", 38) + "nat . h : nat > nat = [ x : nat ] g" + many(" z", 37) + " x . ");
        deep.append("h2 : nat > nat = [ x : nat ] h ( h x ) . h3 : nat > nat = [ x : nat ] h ( h ( h x ) ) . ")
                .append("h9 : nat > nat = [ x : nat ] h3 ( h3 ( h3 x ) ) . h99 : nat > nat = [ x : nat ] c2 ( c4 ( [ y : nat ] h9 ( h3 y ) ) ) ( h3 x ) . ");
        bench = with(deep.toString());
        String within = "h99 ( " + Load.number(8000) + " ) ; h99 ( " + Load.number(7500) + " )";
        due("within 99 questions", bench.equal(within), 1);
        due("nearly all STEPS were taken", bench.it.count(2) / 1000, 19);
    }

    private static void steps60000InAll() {
        says("in all 60,000: one more would be SPENT.");
        Bench bench = with(LOADED);
        Load.drain(bench, 59998);
        due("the last two", bench.canon("z"), 0);
        due("60,000", bench.it.count(1), 60000);
        due("one more", bench.canon("z"), at(9, 0));
        due("60,000 still", bench.it.count(1), 60000);
        due("of this call", bench.it.count(2), 0);
        due("what takes none goes on", bench.named("z"), 1);
        due("a declare of nothing, too", bench.declare("  "), 0);
        due("forgetting gives none back", bench.forget(bench.it.count(0)), 0);
        due("SPENT", bench.declare("nat : type ."), at(9, 6));
        due("a new object has its own", new Bench().declare("nat : type ."), 0);
        bench = with(LOADED);
        Load.drain(bench, 59999);
        due("one for z, none for its form", bench.canon(" z "), at(9, 3));
        due("60,000 again", bench.it.count(1), 60000);
        bench = with(LOADED);
        Load.drain(bench, 59997);
        due("two for z, one for the types, none for EQUAL", bench.equal("z ; z "), -1 - at(9, 6));
        bench = with(LOADED);
        Load.drain(bench, 59996);
        due("four for all", bench.equal("z ; z "), 1);
    }

    private static void the101stQuestionOfEqual() {
        says("Questions of EQUAL, of canonical forms within one another, the 101st: DEEP");
        due("99 s and z are 100", with(DEEP).equal("n99 z ; n99 z"), 1);
        due("z is the 101st", with(DEEP).equal("s ( n99 z ) ; n99 ( s z )"), -1 - at(10, 25));
        due("[ ] is one", with(DEEP).equal("[ x : nat ] n99 x ; n99"), -1 - at(10, 23));
        // The types of m: v, and 98 s and z.
        due("in types", with(DEEP).equal("m ( n99 z ) ; m ( n99 z )"), -1 - at(10, 25));
        due("at the 7", with(DEEP).declare("d : v ( n99 z ) = m ( n99 z ) ."), at(10, 18));
        due("those behind one another are not within", with(DEEP).equal("p ( c16 ( c4 s ) z ) ( c16 ( c4 s ) z ) ; p ( c16 ( c4 s ) z ) ( c16 ( c4 s ) z )"), 1);
        due("what is not so ends it first", with(DEEP).equal("s ( n99 z ) ; z"), 0);
        due("the heads at the 100th are held against one another", with(DEEP).equal("n99 z ; n99 ( s z )"), 0);
    }

    private static void the101stCanonicalForm() {
        says("of canonical forms within one another, the 101st: DEEP");
        Bench bench = with(DEEP);
        due("99 s and z are 100", bench.canon("n99 z"), 0);
        due("its form", bench.out(), many("s (", 98) + "s z" + many(")", 98));
        due("z is the 101st", bench.canon("n99 ( s z ) "), at(10, 12));
        due("[ ] is one", bench.canon("n99"), at(10, 3));
        due("type: v is one", bench.type("m ( n99 z )"), at(10, 11));
        due("those behind one another are not within", bench.canon("p ( c16 ( c4 s ) z ) ( c16 ( c4 s ) z )"), 0);
        // Of { }: 38 and what stands behind the last.
        due("[ ] and { }", bench.declare("w : " + many("nat > ", 38) + "nat . "), 0);
        due("37 and 38 { } are wanted", bench.canon(many("[x:nat]", 37) + "w"), 0);
    }

    private static void deepAheadOfItsStep() {
        says("DEEP (ahead of its STEP).");
        String text = "n99 ( s z )";
        Bench bench = with(DEEP);
        bench.canon(text);
        int taken = bench.it.count(2);
        // check: n99, P, s, P, z, EQUAL, EQUAL; the same questions as those of n99 z, but for the last.
        Bench other = with(DEEP);
        other.canon("n99 z");
        due("the 101st takes none", taken, other.it.count(2) + 3);
        bench = with(DEEP);
        Load.drain(bench, 60000 - taken);
        due("no STEP is left for it: DEEP", bench.canon(text), at(10, text.length()));
        due("60,000", bench.it.count(1), 60000);
        bench = with(DEEP);
        Load.drain(bench, 60000 - taken + 1);
        due("one less: SPENT", bench.canon(text), at(9, text.length()));
        String two = "n99 ( s z ) ; n99 ( s z )";
        bench = with(DEEP);
        bench.equal(two);
        taken = bench.it.count(2);
        bench = with(DEEP);
        Load.drain(bench, 60000 - taken);
        due("equal: DEEP", bench.equal(two), -1 - at(10, two.length()));
        bench = with(DEEP);
        Load.drain(bench, 60000 - taken + 1);
        due("equal: SPENT", bench.equal(two), -1 - at(9, two.length()));
    }

    private static void canonicalFormByItsType() {
        says("CANONICAL FORM of an object by its type: a STEP; the type is { x : F } G: [ x : F' ] and that of the object with x behind it, by G;");
        Bench bench = with(INDEXED);
        canons(bench, "s", "[x0:nat]s x0");
        canons(bench, "p", "[x0:nat][x1:nat]p x0 x1");
        canons(bench, "p z", "[x0:nat]p z x0");
        canons(bench, "m", "[x0:nat]m x0");
        canons(bench, "[ f : nat > nat ] f", "[x0:{x0:nat}nat][x1:nat]x0 x1");
        canons(bench, "[ f : ( nat > nat ) > nat ] f", "[x0:{x0:{x0:nat}nat}nat][x1:{x1:nat}nat]x0 ([x2:nat]x1 x2)");
        // z; s: { }, F', its body, x0.
        canonSteps(INDEXED, "z", 1 + 1);
        canonSteps(INDEXED, "s", 1 + 4);
        canonSteps(INDEXED, "p", 1 + 7);
    }

    private static void aStepForEachFamily() {
        says("F' being F's: a STEP for each { }, each family; { x : F' } G', or the constant with canonical forms of its objects, by its KIND;");
        // [ ], v, P, z, EQUAL, x; { }, v, z, and x with x0 put.
        canonSteps(INDEXED, "[ x : v z ] x", 6 + 3 + 2);
        // [ ], >, nat, v, P, z, EQUAL, z; { }, { }, nat, v, z, and z with x0 put.
        canonSteps(INDEXED, "[ f : nat > v z ] z", 8 + 5 + 2);
        typeSteps(INDEXED, "m z", 4 + 2);
        typeSteps(INDEXED, "s", 1 + 3);
        types(with(LOADED), "m ( id ( s k1 ) )", "v (s z)");
        types(with(NAT + "u : ( nat > nat ) > type . e : { f : nat > nat } u f . "), "e s", "u ([x0:nat]s x0)");
        canons(with(LOADED), "[ x : v k4 ] x", "[x0:v z]x0");
    }

    private static void elseThatOfTheHeadForm() {
        says("else that of the HEAD FORM: its head, and those of the objects behind it, in order,");
        canons(with(LOADED), "p ( id z ) ( id ( s k1 ) )", "p z (s z)");
        canons(with(LOADED), "[ f : nat > nat > nat ] f k2 ( id k1 )", "[x0:{x0:nat}{x1:nat}nat]x0 z z");
        // p, P, k1, EQUAL, P, k2, EQUAL; p, k1 and its 1, k2 and its 2.
        canonSteps(LOADED, "p k1 k2", 7 + 1 + 2 + 3);
        // In order: what would be SPENT stands behind what is DEEP, and ahead of it.
        String spent = "c256 ( c256 id ) z";
        String first = "p ( n99 z ) ( " + spent + " )";
        due("DEEP ahead of SPENT", with(DEEP).canon(first), at(10, first.length()));
        String other = "p ( " + spent + " ) ( n99 z )";
        due("SPENT ahead of DEEP", with(DEEP).canon(other), at(9, other.length()));
    }

    private static void withWhatIsAheadPutIn() {
        says("by the types that the head's type wants, with what is ahead put in.");
        String text = INDEXED + "g : { n : nat } ( v n > v n ) > nat . w : { n : nat } ( v n > nat ) > type . o : { n : nat } { f : v n > nat } w n f . ";
        canons(with(text), "g ( s z ) ( [ x : v ( s z ) ] x )", "g (s z) ([x0:v (s z)]x0)");
        canons(with(text), "[ n : nat ] [ f : v n > v n ] g n f", "[x0:nat][x1:{x1:v x0}v x0]g x0 ([x2:v x0]x1 x2)");
        canons(with(text), "g z", "[x0:{x0:v z}v z]g z ([x1:v z]x0 x1)");
        types(with(text), "o z ( [ x : v z ] z )", "w z ([x0:v z]z)");
    }

    private static void familyAheadOfWhatStandsBehind() {
        says("(F' ahead of what stands behind.)");
        String much = "c256 ( c256 id ) z";
        String text = "[ x : v ( n99 ( s z ) ) ] " + much;
        due("DEEP in F' ahead of SPENT behind", with(DEEP).canon(text), at(10, text.length()));
        text = "[ x : v ( " + much + " ) ] n99 ( s z )";
        due("SPENT in F' ahead of DEEP behind", with(DEEP).canon(text), at(9, text.length()));
        text = "[ x : v ( n99 ( s z ) ) ] m ( " + much + " )";
        due("in a type, too", with(DEEP).type(text), at(10, text.length()));
    }

    private static void constantsByNames() {
        says("PRINTED: constants by NAMES;");
        Bench bench = with("a : type . abcdefghijkl : a . Z9 : a > a . ");
        canons(bench, "abcdefghijkl", "abcdefghijkl");
        canons(bench, "Z9 abcdefghijkl", "Z9 abcdefghijkl");
        types(bench, "Z9", "{x0:a}a");
        bench.forget(1);
        due("told anew, as an object of another NAME", bench.declare("b : a > a ."), 0);
        canons(bench, "b abcdefghijkl", "b abcdefghijkl");
    }

    private static void howManyTheyStandWithin() {
        says("VARS by x and how many { }, [ ] they stand within (0 the outermost);");
        Bench bench = with(INDEXED);
        canons(bench, "[ a : nat ] a", "[x0:nat]x0");
        canons(bench, "[ a : { b : nat } nat ] [ c : nat ] a c", "[x0:{x0:nat}nat][x1:nat]x0 x1");
        canons(bench, "[ a : nat ] [ b : { c : nat } v c ] b a", "[x0:nat][x1:{x1:nat}v x1]x1 x0");
        canons(bench, "[ f : ( nat > nat ) > nat ] f ( [ a : nat ] f ( [ b : nat ] p a b ) )",
                "[x0:{x0:{x0:nat}nat}nat]x0 ([x1:nat]x0 ([x2:nat]p x1 x2))");
        // Those behind one another stand within as many.
        canons(bench, "[ f : ( nat > nat ) > ( nat > nat ) > nat ] f ( [ a : nat ] a ) ( [ b : nat ] b )",
                "[x0:{x0:{x0:nat}nat}{x1:{x1:nat}nat}nat]x0 ([x1:nat]x1) ([x1:nat]x1)");
        StringBuilder eleven = new StringBuilder();
        for (int i = 0; i < 11; i++) eleven.append("[x").append(i).append(":nat]");
        canons(bench, many("[ a : nat ] ", 11) + "a", eleven + "x10");
        types(bench, many("[ a : nat ] ", 11) + "a", eleven.toString().replace('[', '{').replace(']', '}') + "nat");
        bench.declare("w : " + many("nat > ", 38) + "nat . ");
        due("75 within one another", bench.canon(many("[x:nat]", 37) + "w"), 0);
        due("the last is x74", bench.out().substring(bench.out().length() - 4), " x74");
    }

    private static void moreXsAhead() {
        says("if such a WORD is a constant's name: by more xs ahead");
        canons(with(NAT + "x0 : nat . "), "[ y : nat ] y", "[xx0:nat]xx0");
        canons(with(NAT + "x0 : type . "), "[ y : x0 ] y", "[xx0:x0]xx0");
        canons(with(NAT + "x0 : nat = z . "), "[ y : nat ] x0", "[xx0:nat]z");
        types(with(NAT + "x0 : nat . "), "s", "{xx0:nat}nat");
        canons(with(NAT + "X0 : nat . x : nat . xy0 : nat . x0y : nat . y0 : nat . "), "[ y : nat ] y", "[x0:nat]x0");
        canons(with(NAT + "xx0 : nat . "), "[ y : nat ] y", "[x0:nat]x0");
        Bench bench = with(NAT + "x0 : nat . ");
        canons(bench, "[ y : nat ] x0", "[xx0:nat]x0");
        bench.forget(1);
        canons(bench, "[ y : nat ] y", "[x0:nat]x0");
    }

    private static void theFewestForAllAlike() {
        says("(xx0, the fewest, for all of them alike).");
        canons(with(NAT + "x1 : nat . "), "[ a : nat ] [ b : nat ] a", "[xx0:nat][xx1:nat]xx0");
        canons(with(NAT + "x0 : nat . "), "[ a : nat ] [ b : nat ] b", "[xx0:nat][xx1:nat]xx1");
        canons(with(NAT + "x0 : nat . xx1 : nat . "), "[ a : nat ] [ b : nat ] b", "[xxx0:nat][xxx1:nat]xxx1");
        canons(with(NAT + "x0 : nat . xxx0 : nat . "), "[ a : nat ] a", "[xx0:nat]xx0");
        StringBuilder all = new StringBuilder(NAT);
        for (int xs = 1; xs <= 11; xs++) all.append(many("x", xs)).append("0 : nat . ");
        canons(with(all.toString()), "[ a : nat ] a", "[" + many("x", 12) + "0:nat]" + many("x", 12) + "0");
    }

    private static void bracketsOnlyWhereNeeded() {
        says("[x0:F]M and {x0:F}G without blanks; what is behind another one with a blank between, in ( ) if it is [ ], or has objects behind it;");
        Bench bench = with(INDEXED + "l : ( nat > nat ) > nat . ");
        canons(bench, "p z z", "p z z");
        canons(bench, "p ( z ) ( ( s ) ( z ) )", "p z (s z)");
        canons(bench, "l ( [ x : nat ] x )", "l ([x0:nat]x0)");
        canons(bench, "l s", "l ([x0:nat]s x0)");
        canons(bench, "l ( [ x : nat ] l ( [ y : nat ] p x ( s y ) ) )", "l ([x0:nat]l ([x1:nat]p x0 (s x1)))");
        types(bench, "m ( s z )", "v (s z)");
        types(bench, "[ x : v ( s z ) ] [ y : nat ] x", "{x0:v (s z)}{x1:nat}v (s z)");
    }

    private static void arrowIsNeverPrinted() {
        says("> is never printed.");
        types(with(INDEXED), "p", "{x0:nat}{x1:nat}nat");
        types(with(INDEXED), "[ f : ( nat > nat ) > nat ] z", "{x0:{x0:{x0:nat}nat}nat}nat");
        canons(with(INDEXED), "[ f : nat > nat ] z", "[x0:{x0:nat}nat]z");
    }
}
