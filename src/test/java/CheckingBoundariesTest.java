/** The sentences of section 2 (CHECKING) that name a boundary case. */
public final class CheckingBoundariesTest extends Sentences {
    public static void main(String[] args) {
        oneStepForEach();
        aheadOfWhatTheyHave();
        aheadOfWhatItIs();
        whatIsWrongHasTakenItsStep();
        fromTheLeft();
        theFirstThatIsWrong();
        placeOfAToken();
        theEndIsAToken();
        noneOrCannotStandThere();
        oneTooMany();
        aheadOfAllOthers();
        ofOneTokenTheLeast();
        aConstantThatIsTold();
        aNameThatIsNone();
        anotherSortAtItsFirstToken();
        typeWhereAFamilyOrAnObjectIsWanted();
        whatIsNoObject();
        anObjectWhereAFamilyIsWanted();
        bracketsAheadOfPWhereAFamilyIsWanted();
        neitherKindNorFamily();
        fewerObjects();
        moreObjects();
        behindWhatIsNoFunction();
        notEqual();
        notEqualOfADefinition();
        spentOrDeepAtTheSeven();
        spentAtWhatWouldTakeTheStep();
        typesOfObjects();
        putForX();
        familysObjectsInOrder();
        thenFour();
        familyWantedInADefinition();
        end("CheckingBoundariesTest");
    }

    private static void oneStepForEach() {
        says("one for each NAME, type, { }, [ ], >");
        declareSteps("", "", 0);
        declareSteps("", "a : type .", 1);
        declareSteps("", "a : ( ( type ) ) .", 1);
        declareSteps(NAT, "a : nat .", 1);
        declareSteps(NAT, "a : nat > type .", 3);
        declareSteps(NAT, "a : { x : nat } type .", 3);
        declareSteps(NAT, "a : { x : nat } { y : nat } nat > nat .", 7);
        canonSteps(NAT, "[ x : nat ] x x", 3 + 1);
        declareSteps(NAT, "a : type . b : type . c : what .", 3);
    }

    private static void aheadOfWhatTheyHave() {
        says("(these three ahead of what they have)");
        Bench bench = drained(60000);
        due("{ }", bench.declare("a : { x : what } what ."), at(9, 4));
        due("[ ]", bench.canon("[ x : what ] what"), at(9, 0));
        due(">", bench.declare("a : what > what ."), at(9, 9));
        due("( ) >", bench.declare("a : ( what ) > what ."), at(9, 13));
        Bench one = drained(59999);
        due("> and then the NAME ahead of it", one.declare("a : nat > nat ."), at(9, 4));
        due("one STEP", one.it.count(2), 1);
    }

    private static void aheadOfWhatItIs() {
        says("for each P behind another one (ahead of what it is)");
        Bench bench = drained(59999);
        due("SPENT at the (", bench.canon("s ( ( what ) )"), at(9, 2));
        Bench two = drained(59998);
        due("SPENT at the NAME in it", two.canon("s ( ( what ) )"), at(9, 6));
        // s; P, z and EQUAL; the canonical forms of s z and z.
        canonSteps(NAT, "s z", 1 + 3 + 2);
        canonSteps(NAT, "s ( ( z ) )", 1 + 3 + 2);
        // A ( ) ahead of a P takes none.
        canonSteps(NAT, "( s ) z", 1 + 3 + 2);
    }

    private static void whatIsWrongHasTakenItsStep() {
        says("(what is wrong by 2, 4, 6, 8 has taken its STEP)");
        canonSteps(NAT, "what", 1);
        canonSteps(NAT, "s what", 3);
        declareSteps(PLUS, "a : plus .", 1);
        declareSteps(PLUS, "a : plus z .", 4);
        declareSteps(NAT, "a : nat z .", 2);
        declareSteps(NAT, "a : nat what .", 2);
        declareSteps(PLUS, "a : plus z z z z .", 1 + 9 + 1);
        canonSteps(NAT, "type", 1);
        canonSteps(NAT, "nat", 1);
        canonSteps(NAT, "{ x : what } z", 1);
        canonSteps(NAT, "what > z", 1);
        canonSteps(NAT, "type z", 1);
        declareSteps(NAT, "a : [ x : what ] x .", 1);
        declareSteps(NAT, "a : z .", 1);
        declareSteps(NAT, "a : type z .", 1);
        canonSteps(NAT, "z z", 2);
        canonSteps(NAT, "z ( what )", 2);
        Bench bench = drained(60000);
        due("2 with no STEP left is 9", bench.canon("what"), at(9, 0));
        due("6 with no STEP left is 9", bench.canon("type"), at(9, 0));
        due("6, of a {", bench.canon("{ x : nat } z"), at(9, 0));
        due("6, of a >", bench.canon("nat > z"), at(9, 4));
        Bench one = drained(59999);
        due("8 with no STEP left is 9", one.canon("z z"), at(9, 2));
        Bench other = drained(59999);
        due("4 with no STEP left is 9", other.declare("a : nat z ."), at(9, 8));
    }

    private static void fromTheLeft() {
        says("It goes from the left, what is ahead (F of { }, [ ], >; the object ahead of a P) first.");
        declares(NAT, "a : { x : one } two .", at(2, 10));
        declares(NAT, "a : { x : nat } two .", at(2, 16));
        declares(NAT, "a : one > two .", at(2, 4));
        declares(NAT, "a : nat > two .", at(2, 10));
        declares(NAT, "a : nat = one two .", at(2, 10));
        declares(NAT, "a : one = two .", at(2, 4));
        canonFault(NAT, "[ x : one ] two", at(2, 6));
        canonFault(NAT, "[ x : nat ] two", at(2, 12));
        canonFault(NAT, "one two", at(2, 0));
        canonFault(NAT, "( s one ) two", at(2, 4));
        canonFault(NAT, "( [ x : nat ] one ) two", at(2, 14));
        canonFault(INDEXED, "p one two", at(2, 2));
        canonFault(INDEXED, "p s two", at(7, 2));
        due("the first of two OBJECTS", with(NAT).equal("one ; two"), -1 - at(2, 0));
        due("the other of two OBJECTS", with(NAT).equal("z ; two"), -1 - at(2, 4));
    }

    private static void theFirstThatIsWrong() {
        says("The first that is wrong is told:");
        canonFault(INDEXED, "p s what", at(7, 2));
        canonFault(INDEXED, "p what s", at(2, 2));
        canonFault(INDEXED, "p ( z z ) what", at(8, 6));
        canonFault(INDEXED, "p nat what", at(6, 2));
        canonFault(INDEXED, "[ x : v ] what", at(4, 6));
        canonFault(INDEXED, "p z ( s s ) what", at(7, 8));
        declares(INDEXED, "a : v z z = what .", at(4, 8));
        declares(INDEXED, "a : v > what .", at(4, 4));
        declares(INDEXED, "a : v z . b : v s . c : what .", at(7, 16));
    }

    private static void placeOfAToken() {
        says("kind + 16 * the place, from 0, of a token");
        canonFault(NAT, "what", 2);
        canonFault(NAT, " what", 2 + 16);
        canonFault(NAT, "\n\nwhat", 2 + 32);
        canonFault(NAT, "#", 1);
        declares(NAT, "nat : type .", 3);
        declares(NAT, "a:what.", 2 + 32);
        // Of a text of several declarations places go on.
        declares(NAT, "a : nat . b : nat . c : what .", 2 + 16 * 24);
        due("a last place", new Bench().declare(many(" ", 3999) + "#"), 1 + 16 * 3999);
    }

    private static void theEndIsAToken() {
        says("the end being one at the text's length");
        declares("", "a", at(1, 1));
        declares("", "a  ", at(1, 3));
        declares("", "a : type", at(1, 8));
        declares("", "a : type \n", at(1, 10));
        declares("", "a : type . b", at(1, 12));
        canonFault(NAT, "", at(1, 0));
        canonFault(NAT, " \n ", at(1, 3));
        canonFault(NAT, "s ( z ", at(1, 6));
        canonFault(NAT, "[ x : nat ]  ", at(1, 13));
        due("equal", with(NAT).equal("z ;  "), -1 - at(1, 5));
        due("a full TAPE's", new Bench().declare("a : type" + many(" ", 3992)), at(1, 4000));
    }

    private static void noneOrCannotStandThere() {
        says("1 a token that is none, or can't stand there");
        String[] texts = {"# : type .", "a # type .", "a : # .", "a : type #", "a : { # : nat } nat .", "a : { x # nat } nat .",
            "a : { x : # } nat .", "a : { x : nat # nat .", "a : { x : nat } # .", "a : nat > # .", "a : ( # ) .", "a : ( nat # .", "a : nat = # .", "a : nat = z #"};
        for (String text : texts) declares(NAT, text, at(1, text.indexOf('#')));
        for (String sign : new String[] {"{", "}", "[", "]", "(", ")", ".", "=", ";", ">", "type", ""}) declares(NAT, "a " + sign, at(1, 2));
        for (String sign : new String[] {"}", "]", ")", ":", ".", "=", ";", ">", ""}) declares(NAT, "a : " + sign, at(1, 4));
        for (String sign : new String[] {"{", "}", "[", "]", ")", ":", ";"}) declares(NAT, "a : nat " + sign, at(1, 8));
        for (String sign : new String[] {"{", "}", "[", "]", ")", ":", "=", ";"}) declares(NAT, "a : nat = z " + sign, at(1, 12));
        for (String sign : new String[] {"{", "}", "[", "]", ")", ":", "=", ";", "."}) canonFault(NAT, "z " + sign, at(1, 2));
        for (String sign : new String[] {"}", "]", ")", ":", ".", "=", ";", ">", ""}) canonFault(NAT, "s ( " + sign, at(1, 4));
        declares(NAT, "a : { x : nat ] nat .", at(1, 14));
        canonFault(NAT, "[ x : nat } x", at(1, 10));
        declares(NAT, "a : type = .", at(1, 11));
        due("a second ;", with(NAT).equal("z ; z ;"), -1 - at(1, 6));
        due("no ;", with(NAT).equal("z z"), -1 - at(1, 3));
        due("a . for a ;", with(NAT).equal("z . z"), -1 - at(1, 2));
    }

    private static void oneTooMany() {
        says("5 one too many: a P, {, [ or > beyond 600, an E or P within 40 others, at its first token; a constant beyond 100 at its NAME");
        String full = "z" + many(" z", 599);
        canonFault(NAT, full, at(8, 2));
        canonFault(NAT, full + " z", at(5, 1200));
        canonFault(NAT, full + "  type", at(5, 1201));
        canonFault(NAT, full + "(z)", at(5, 1199));
        canonFault(NAT, full + ">z", at(5, 1199));
        canonFault(NAT, "z" + many(" z", 598) + ">{x:nat}z", at(5, 1198));
        canonFault(NAT, "z" + many(" z", 597) + "([x:nat]z)", at(5, 1195 + 4));
        canonFault(NAT, "z" + many(" z", 598) + "([x:nat]z)", at(5, 1197 + 1));
        canonFault(NAT, "z" + many(" z", 597) + ">[x:nat]z", at(5, 1195 + 4));
        canonFault(NAT, many("(", 20) + "  z" + many(")", 20), at(5, 22));
        canonFault(NAT, many("(", 20) + "{x:nat}z" + many(")", 20), at(5, 20));
        canonFault(NAT, many("[x:nat]", 38) + "(x)", at(5, 38 * 7 + 1));
        declares(hundred(), "b : type .", at(5, 0));
        declares(hundred(), "  b : what .", at(5, 2));
    }

    private static String hundred() {
        StringBuilder text = new StringBuilder();
        for (int k = 0; k < 100; k++) text.append("a").append(k).append(":type.");
        return text.toString();
    }

    private static void aheadOfAllOthers() {
        says("(these ahead of all others, as all of a declaration, a query is read first;");
        declares(NAT, "a : what #", at(1, 9));
        declares(NAT, "a : what = z z", at(1, 14));
        declares(NAT, "a : z > type type = ( nat .", at(1, 26));
        canonFault(NAT, "what what )", at(1, 10));
        canonFault(NAT, "what" + many(" z", 600), at(5, 4 + 599 * 2 + 1));
        canonFault(NAT, "what" + many("(", 20) + "z" + many(")", 20), at(5, 24));
        due("equal", with(NAT).equal("what ; z #"), -1 - at(1, 9));
        due("type", with(NAT).type("what ]"), at(1, 5));
        // The next declaration is read when this one has been checked.
        declares(NAT, "a : what . #", at(2, 4));
        declares(NAT, "a : nat . #", at(1, 10));
        // No STEP has been taken then.
        declareSteps(NAT, "a : nat > what #", 0);
        canonSteps(NAT, "s z )", 0);
        equalSteps(NAT, "z ; z )", 0);
    }

    private static void ofOneTokenTheLeast() {
        says("of one token the least)");
        declares(hundred(), "a5 : type .", at(3, 0));
        declares(hundred(), "type : type .", at(1, 0));
        declares(hundred(), "abcdefghijklm : type .", at(1, 0));
        canonFault(NAT, many("(", 20) + ")", at(1, 20));
        canonFault(NAT, many("(", 20), at(1, 20));
        canonFault(NAT, many("(", 20) + "#", at(1, 20));
        canonFault(NAT, "z" + many(" z", 599) + " #", at(1, 1200));
        canonFault(NAT, "z" + many(" z", 599) + " )", at(1, 1200));
        canonFault(NAT, "z" + many(" z", 599) + " {", at(1, 1200));
    }

    private static void aConstantThatIsTold() {
        says("3 (at the NAME, as it is read, ahead of what stands behind it) a constant that is told.");
        declares(NAT, "nat : type .", at(3, 0));
        declares(NAT, " s", at(3, 1));
        declares(NAT, " s # #", at(3, 1));
        declares(NAT, "z : what = # .", at(3, 0));
        declares("", "a : type . b : a . a : b .", at(3, 19));
        declares(NAT + "d : nat = z . ", "d : nat = z .", at(3, 0));
        declareSteps(NAT, "nat : type .", 0);
        Bench bench = with(NAT);
        due("forgotten", bench.forget(1), 2);
        due("is not told", bench.declare("s : nat ."), 0);
        due("one that had a fault", bench.declare("b : what ."), at(2, 4));
        due("is not told", bench.declare("b : nat ."), 0);
        due("a VAR is none", bench.declare("c : { d : nat } nat . d : nat ."), 0);
    }

    private static void aNameThatIsNone() {
        says("2 a NAME that is none.");
        declares(NAT, "a : a .", at(2, 4));
        declares(NAT, "a : nat = a .", at(2, 10));
        declares(NAT, "a : Nat .", at(2, 4));
        declares(NAT, "a : na .", at(2, 4));
        declares(NAT, "a : natt .", at(2, 4));
        declares(NAT, "a : ( what ) .", at(2, 6));
        canonFault(NAT, "what z", at(2, 0));
        canonFault(NAT, "( what ) z", at(2, 2));
        canonFault("", "z", at(2, 0));
        Bench bench = with(NAT);
        bench.forget(1);
        due("a forgotten one", bench.canon("s z"), at(2, 0));
        due("in equal", bench.equal("z ; ( s )"), -1 - at(2, 6));
    }

    private static void anotherSortAtItsFirstToken() {
        says("6 what is of another SORT than can stand there, at its first token");
        canonFault(NAT, " ( s ) > z", at(6, 1));
        canonFault(NAT, "  nat > nat", at(6, 2));
        canonFault(PLUS, " plus z z z", at(6, 1));
        declares(NAT, "a : s z .", at(6, 4));
        declares(NAT, "a : nat > [ x : nat ] nat .", at(6, 10));
        declares(NAT, "a : nat > s z > nat .", at(6, 10));
    }

    private static void typeWhereAFamilyOrAnObjectIsWanted() {
        says("type, [ ] where a FAMILY, an OBJECT is wanted;");
        declares(NAT, "a : { x : type } nat .", at(6, 10));
        declares(NAT, "a : type > nat .", at(6, 4));
        declares(NAT, "a : type = z .", at(6, 4));
        declares(NAT, "a : nat > type = s .", at(6, 10));
        canonFault(NAT, "[ x : type ] x", at(6, 6));
        declares(NAT, "a : { x : [ y : nat ] y } nat .", at(6, 10));
        declares(NAT, "a : [ x : nat ] nat = z .", at(6, 4));
        canonFault(NAT, "type", at(6, 0));
        canonFault(NAT, "s type", at(6, 2));
        canonFault(NAT, "[ x : nat ] type", at(6, 12));
        declares(PLUS, "a : plus z type z .", at(6, 11));
        declares(NAT, "a : nat = type .", at(6, 10));
        due("in equal", with(NAT).equal("z ; type"), -1 - at(6, 4));
        // [ ] is an OBJECT.
        due("[ ] where an OBJECT is wanted", with(NAT).canon("[ x : nat ] x"), 0);
    }

    private static void whatIsNoObject() {
        says("{ }, >, type, a family where an OBJECT is;");
        canonFault(NAT, "{ x : nat } z", at(6, 0));
        canonFault(NAT, "z > z", at(6, 0));
        canonFault(NAT, "nat", at(6, 0));
        canonFault(PLUS, "plus z", at(6, 0));
        canonFault(NAT, "s ( { x : nat } z )", at(6, 4));
        canonFault(NAT, "s ( z > z )", at(6, 4));
        canonFault(NAT, "s nat", at(6, 2));
        canonFault(NAT, "[ x : nat ] { y : nat } x", at(6, 12));
        canonFault(NAT, "[ x : nat ] x > x", at(6, 12));
        declares(NAT, "a : nat = { x : nat } x .", at(6, 10));
        declares(NAT, "a : nat = nat > nat .", at(6, 10));
        due("in type", with(NAT).type("nat"), at(6, 0));
        due("in equal", with(NAT).equal("z > z ; z"), -1 - at(6, 0));
    }

    private static void anObjectWhereAFamilyIsWanted() {
        says("an object where a FAMILY is;");
        canonFault(NAT, "[ x : z ] x", at(6, 6));
        canonFault(NAT, "[ x : nat ] [ y : x ] y", at(6, 18));
        canonFault(NAT, "[ x : s z ] x", at(6, 6));
        declares(NAT, "a : z > nat .", at(6, 4));
        declares(NAT, "a : nat > s .", at(6, 10));
        declares(NAT, "a : z = z .", at(6, 4));
        declares(NAT + "d : nat = z . ", "a : d .", at(6, 4));
    }

    private static void bracketsAheadOfPWhereAFamilyIsWanted() {
        says("a ( E ) ahead of P where a FAMILY is wanted;");
        declares(PLUS, "a : ( plus ) z z z .", at(6, 4));
        declares(PLUS, "a : ( plus z z ) z .", at(6, 4));
        declares(PLUS, "a : nat > ( what ) z .", at(6, 10));
        declares(PLUS, "a : ( ( plus ) z z z ) .", at(6, 6));
        declares(PLUS, "a : ( ( plus ) z z ) z .", at(6, 4));
        canonFault(PLUS, "[ x : ( plus z ) z z ] x", at(6, 6));
        declares(PLUS, "a : ( plus z z z ) .", 0);
        // Where an OBJECT is wanted it may stand.
        due("( E ) P as an OBJECT", with(PLUS).canon("( s ) z"), 0);
    }

    private static void neitherKindNorFamily() {
        says("where a KIND or a FAMILY may stand (behind a : of a declaration) what is neither).");
        declares(NAT, "a : z .", at(6, 4));
        declares(NAT, "a : [ x : nat ] type .", at(6, 4));
        declares(NAT, "a : s z .", at(6, 4));
        declares(NAT, "a : type z .", at(6, 4));
        declares(NAT, "a : nat > z .", at(6, 10));
        declares(NAT, "a : nat > [ x : nat ] type .", at(6, 10));
        declares(NAT, "a : { x : nat } x .", at(6, 16));
        declares(NAT, "a : { x : nat } type x .", at(6, 16));
    }

    private static void fewerObjects() {
        says("4 a family with fewer objects behind it than its KIND wants, at its NAME;");
        declares(PLUS, "a : plus .", at(4, 4));
        declares(PLUS, "a : plus z .", at(4, 4));
        declares(PLUS, "a : plus z z .", at(4, 4));
        declares(PLUS, "a : plus z z z .", 0);
        declares(PLUS, "a : ( ( plus z z ) ) .", at(4, 8));
        declares(PLUS, "a : { x : nat } plus x x .", at(4, 16));
        declares(PLUS, "a : plus > nat .", at(4, 4));
        canonFault(PLUS, "[ x : plus z ] x", at(4, 6));
    }

    private static void moreObjects() {
        says("with more, at the first P too many.");
        declares(PLUS, "a : plus z z z z .", at(4, 15));
        declares(PLUS, "a : plus z z z ( z ) z .", at(4, 15));
        declares(NAT, "a : nat z .", at(4, 8));
        declares(NAT, "a : nat  ( ( z ) ) .", at(4, 9));
        declares(NAT, "a : nat type .", at(4, 8));
        canonFault(NAT, "[ x : nat z ] x", at(4, 10));
    }

    private static void behindWhatIsNoFunction() {
        says("8 a P behind an object whose type is no { }: at it.");
        canonFault(NAT, "z z", at(8, 2));
        canonFault(NAT, "s z z", at(8, 4));
        canonFault(NAT, "s z ( z )", at(8, 4));
        canonFault(NAT, "( s z ) z", at(8, 8));
        canonFault(NAT, "[ x : nat ] x x", at(8, 14));
        canonFault(NAT, "( [ x : nat ] x ) z z", at(8, 20));
        canonFault(INDEXED, "m z z", at(8, 4));
        canonFault(INDEXED, "p z z z", at(8, 6));
        declares(NAT, "a : nat = z z .", at(8, 12));
        due("in equal", with(NAT).equal("z ; z z"), -1 - at(8, 6));
    }

    private static void notEqual() {
        says("7 a P whose type is not EQUAL to what is wanted: at its first token;");
        canonFault(NAT, "s s", at(7, 2));
        canonFault(NAT, "s ( s )", at(7, 2));
        canonFault(NAT, "s ( ( ( [ x : nat ] x ) ) )", at(7, 2));
        canonFault(PLUS, "ps z z ( s z ) ( pz z )", at(7, 15));
        declares(PLUS, "a : plus z s z .", at(7, 11));
        declares(PLUS + "le : { x : nat } plus x x x > type . ", "a : le ( s z ) ( pz z ) .", at(7, 15));
        canonFault(INDEXED, "[ f : v z > nat ] f ( m ( s z ) )", at(7, 20));
        due("EQUAL, by a definition", with(INDEXED + "d : nat = z . ").canon("[ f : v d > nat ] f ( m z )"), 0);
        due("EQUAL, as it has no end in { }", with(INDEXED).canon("[ f : ( nat > nat ) > nat ] f s"), 0);
    }

    private static void notEqualOfADefinition() {
        says("of a definition the object, at its first token.");
        declares(NAT, "a : nat = s .", at(7, 10));
        declares(NAT, "a : nat =  ( s ) .", at(7, 11));
        declares(NAT, "a : nat > nat = ( z ) .", at(7, 16));
        declares(NAT, "a : nat = [ x : nat ] x .", at(7, 10));
        declares(NAT, "a : nat = ( [ x : nat ] s ) z .", at(7, 10));
        declares(INDEXED, "a : v z = m ( s z ) .", at(7, 10));
        declares(INDEXED, "a : v ( s z ) = m ( s z ) .", 0);
    }

    private static Bench drained(int steps) {
        Bench bench = with(INDEXED + Load.SIGNATURE);
        Load.drain(bench, steps);
        due("STEPS in all", bench.it.count(1), steps);
        return bench;
    }

    private static void spentOrDeepAtTheSeven() {
        says("9 SPENT, 10 DEEP (see 3): at the token of the 7 that was asked");
        String much = "c256 ( c256 id ) z";
        String ahead = "d : v z =  ( m ( ";
        due("SPENT of a definition", with(INDEXED + Load.SIGNATURE).declare(ahead + much + " ) ) ."), at(9, 11));
        due("SPENT of a P", with(INDEXED + Load.SIGNATURE).canon("[ f : v z > nat ] f ( m ( " + much + " ) )"), at(9, 20));
        due("SPENT of a family's P", with(INDEXED + Load.SIGNATURE + "w : v z > type . ").declare("a : w ( m ( " + much + " ) ) ."), at(9, 6));
        String deep = "c3 : ( nat > nat ) > nat > nat = [ f : nat > nat ] [ x : nat ] f ( c2 f x ) . "
                + "n99 : nat = c16 ( c4 s ) ( c16 ( c2 s ) ( c3 s z ) ) . ";
        due("DEEP of a definition", with(INDEXED + Load.SIGNATURE + deep).declare("d : v n99 = ( m n99 ) ."), at(10, 12));
        due("DEEP of a P", with(INDEXED + Load.SIGNATURE + deep).canon("[ f : v n99 > nat ] f ( m n99 )"), at(10, 22));
        due("in equal", with(INDEXED + Load.SIGNATURE + deep).equal("z ; ( [ x : v n99 ] z ) ( m n99 )"), -1 - at(10, 24));
        // The EQUAL of a P has one STEP left for z, and none for the P.
        Bench bench = drained(59997);
        due("EQUAL would take the STEP", bench.canon("s  ( z )"), at(9, 3));
        due("three were taken", bench.it.count(2), 3);
    }

    private static void spentAtWhatWouldTakeTheStep() {
        says("or at that which would take the STEP (the NAME, the sign, the P's first token).");
        Bench bench = drained(60000);
        due("a NAME", bench.canon(" ( ( z ) )"), at(9, 5));
        due("a NAME of a family", bench.declare("a : ( nat ) ."), at(9, 6));
        due("type", bench.declare("a : ( type ) ."), at(9, 6));
        due("{", bench.declare("a : ( { x : nat } nat ) ."), at(9, 6));
        due(">", bench.declare("a : ( nat > nat ) ."), at(9, 10));
        due("[", bench.canon("( [ x : nat ] x )"), at(9, 2));
        due("nothing was taken", bench.it.count(2), 0);
        due("a P", drained(59999).canon("s ( z )"), at(9, 2));
        due("a family's P", drained(59999).declare("a : v ( z ) ."), at(9, 6));
        due("the NAME in it", drained(59998).canon("s ( z )"), at(9, 4));
        due("a second P", drained(59996).canon("p z ( z )"), at(9, 4));
        due("the other of two OBJECTS", drained(59999).equal("z ; ( z )"), -1 - at(9, 6));
        due("ahead of them what is read", bench.canon("( z"), at(1, 3));
    }

    private static void typesOfObjects() {
        says("The type of a VAR is its F, of a constant as declared, of [ x : F ] M it is { x : F } and M's type");
        Bench bench = with(INDEXED);
        types(bench, "[ x : v z ] x", "{x0:v z}v z");
        types(bench, "m", "{x0:nat}v x0");
        types(bench, "z", "nat");
        types(bench, "[ x : nat ] m", "{x0:nat}{x1:nat}v x1");
        types(bench, "[ x : nat ] [ y : v x ] y", "{x0:nat}{x1:v x0}v x0");
    }

    private static void putForX() {
        says("of M N, M's type being { x : F } G, it is G with N put for x; N's type must be EQUAL to F.");
        Bench bench = with(PLUS);
        types(bench, "pz ( s z )", "plus z (s z) (s z)");
        types(bench, "[ n : nat ] pz n", "{x0:nat}plus z x0 x0");
        types(bench, "ps z", "{x0:nat}{x1:nat}{x2:plus z x0 x1}plus (s z) x0 (s x1)");
        types(bench, "[ n : nat ] ps n n n", "{x0:nat}{x1:plus x0 x0 x0}plus (s x0) x0 (s x0)");
        types(bench, "( [ n : nat ] [ q : plus z n n ] q ) z", "{x0:plus z z z}plus z z z");
        due("N's type is not", bench.type("ps z z ( s z ) ( pz z )"), at(7, 15));
        due("N's type is", bench.type("ps z z z ( pz z )"), 0);
    }

    private static void familysObjectsInOrder() {
        says("A family's objects likewise by its KIND, in order.");
        String le = PLUS + "le : { x : nat } { y : nat } plus x y y > type . ";
        declares(le, "a : le z z ( pz z ) .", 0);
        declares(le, "a : le z ( s z ) ( pz ( s z ) ) .", 0);
        declares(le, "a : le z ( s z ) ( pz z ) .", at(7, 17));
        declares(le, "a : le s what .", at(7, 7));
        declares(le, "a : le z what s .", at(2, 9));
    }

    private static void thenFour() {
        says("(A family's NAME is asked for 2, 6, its objects are checked in order, each 7 behind its own; then 4.");
        declares(PLUS, "a : what one .", at(2, 4));
        declares(PLUS, "a : z one .", at(6, 4));
        declares(PLUS, "a : plus one .", at(2, 9));
        declares(PLUS, "a : plus z nat .", at(6, 11));
        declares(PLUS, "a : plus z s .", at(7, 11));
        declares(PLUS, "a : plus s one .", at(7, 9));
        declares(PLUS, "a : plus z ( z z ) .", at(8, 15));
        declares(PLUS, "a : plus z z .", at(4, 4));
        declares(PLUS, "a : plus z z s z .", at(7, 13));
    }

    private static void familyWantedInADefinition() {
        says("In a definition a FAMILY is wanted behind the : .)");
        declares(NAT, "a : type = nat .", at(6, 4));
        declares(NAT, "a : nat > type = [ x : nat ] nat .", at(6, 10));
        declares(NAT, "a : ( type ) = what .", at(6, 6));
        declares(NAT, "a : nat = z .", 0);
    }
}
