/** The sentences of section 1 (TEXTS) that name a boundary case. */
public final class TextBoundariesTest extends Sentences {
    private static final String SIGNS = "{}[]():.=;>";

    public static void main(String[] args) {
        tapeHasAtMost4000Signs();
        tapeHas10And32To126();
        whatReadsItTakesIt();
        tokensAsLongAsCanBe();
        blanksWhereOneLikes();
        words();
        allElseIsNone();
        expressions();
        onePOrMore();
        parts();
        wordsButType();
        arrowIsBracesWithAVarThatStandsNowhere();
        nearestVar();
        atMost600();
        each600IsAWholeOne();
        atMost40WithinOneAnother();
        atMost100Constants();
        kinds();
        families();
        objects();
        whatStandsBehindTells();
        bracketsAreWhatIsInside();
        end("TextBoundariesTest");
    }

    private static void tapeHasAtMost4000Signs() {
        says("The TAPE has at most 4,000 signs");
        Bench bench = new Bench();
        for (int i = 0; i < 166; i++) bench.feed(many(" ", 24));
        due("3,984 signs", bench.it.count(3), 3984);
        due("15 more", bench.feed(many(" ", 15)).it.count(3), 3999);
        due("the 4,000th", bench.it.feed(0x2000000000000000L, 0, 0), 4000);
        due("the 4,001st", bench.it.feed(0x2000000000000000L, 0, 0), 4000);
        due("24 more", bench.it.feed(0x2020202020202020L, 0x2020202020202020L, 0x2020202020202020L), 4000);
        due("a full TAPE is read", bench.it.declare(), 0);
        String last = "a : type .";
        due("the last sign is the 4,000th", new Bench().declare(many(" ", 3990) + last), 0);
        due("the last sign would be the 4,001st", new Bench().declare(many(" ", 3991) + last), at(1, 4000));
        due("a fault at the 4,000th sign", new Bench().declare(many(" ", 3999) + "#"), at(1, 3999));
        due("what has no room is not read", new Bench().declare(many(" ", 3990) + last + "#"), 0);
    }

    private static void tapeHas10And32To126() {
        says("The TAPE has at most 4,000 signs, 10 and 32 .. 126");
        for (int sign = 0; sign < 256; sign++) {
            int taken = sign == 10 || sign >= 32 && sign <= 126 ? 1 : 0;
            due("sign " + sign + " as the highest of a", new FrameBench().feed((long) sign << 56, 0, 0), taken);
            due("sign " + sign + " as the lowest of c", new FrameBench().feed(0, 0, sign), taken);
        }
        FrameBench bench = new FrameBench();
        bench.feed(0x61007f1f093a0b80L, 0x74ff79c3700d6500L, 0x2eL);
        due("what is between is left out: a:type.", bench.count(3), 7);
        due("and makes no gap", bench.declare(), 0);
    }

    private static void whatReadsItTakesIt() {
        says("what reads it takes it: it is empty then.");
        Bench bench = with(NAT);
        due("declare", bench.it.count(3), 0);
        bench.declare("a : what . b : nat .");
        due("declare with a fault ahead of the end", bench.it.count(3), 0);
        bench.canon("z");
        due("canon", bench.it.count(3), 0);
        bench.canon("# z");
        due("canon with a fault", bench.it.count(3), 0);
        bench.type("z");
        due("type", bench.it.count(3), 0);
        bench.type("nat z z");
        due("type with a fault", bench.it.count(3), 0);
        bench.equal("z ; z");
        due("equal", bench.it.count(3), 0);
        bench.equal("# ; z");
        due("equal with a fault", bench.it.count(3), 0);
        bench.named("z");
        due("named", bench.it.count(3), 0);
        bench.named("z z #");
        due("named of what is no NAME", bench.it.count(3), 0);
        due("nothing is left to declare", bench.it.declare(), 0);
        due("nothing is left to canon", bench.it.canon(), at(1, 0));
        bench.feed("z");
        bench.it.size();
        bench.it.out(0);
        bench.it.constant(0, 0);
        bench.it.count(0);
        bench.it.forget(0);
        bench.it.forget(-1);
        due("the others leave it", bench.it.count(3), 1);
    }

    private static void tokensAsLongAsCanBe() {
        says("TOKENS, each as long as can be");
        Bench bench = with(NAT + "sz : nat . z2 : nat . ");
        canons(bench, "sz", "sz");
        canons(bench, "s z", "s z");
        canons(bench, "z2", "z2");
        due("z 2", bench.canon("z 2"), at(1, 2));
        due("types", bench.canon("types"), at(2, 0));
        due("type1", bench.canon("type1"), at(2, 0));
        due("stype", bench.canon("stype"), at(2, 0));
        due("12 and 12 letters are one WORD of 24", bench.canon("abcdefghijklabcdefghijkl"), at(1, 0));
    }

    private static void blanksWhereOneLikes() {
        says("blanks (10, 32) between where one likes");
        Bench bench = new Bench();
        due("none", bench.declare("nat:type.z:nat.s:nat>nat.f:{x:nat}nat=[x:nat]s(s x)."), 0);
        canons(bench, "f(s z)", "s (s (s z))");
        canons(bench, "s\nz", "s z");
        canons(bench, "\n \n f \n\n ( \n s \n z \n ) \n ", "s (s (s z))");
        due("within a WORD there are two", bench.canon("s na t"), at(2, 2));
        due("many", bench.declare(" \n a \n : \n { \n x \n : \n nat \n } \n nat \n > \n nat \n . \n "), 0);
    }

    private static void words() {
        says("WORDS (a letter a .. z or A .. Z, then letters and digits, 12 at most)");
        for (char first : new char[] {'a', 'z', 'A', 'Z'}) declares("", first + ":type.", 0);
        for (char first : new char[] {'@', '[', '`', '{', '0', '9', '/', ':'}) declares("", first + ":type.", at(1, 0));
        for (char next : new char[] {'a', 'z', 'A', 'Z', '0', '9'}) declares("", "q" + next + ":type.", 0);
        for (char next : new char[] {'@', '[', '`', '{', '/'}) declares("", "q" + next + ":type.", at(1, 1));
        declares("", "q::type.", at(1, 2));
        declares("", "a:type.A:type.", 0);
        declares("", "abcdefghijkl:type.abcdefghijkm:type.", 0);
        declares("", "a12345678901:type.", 0);
        declares("", "a123456789012:type.", at(1, 0));
        declares("", "abcdefghijklm:type.", at(1, 0));
        declares("", "ab:type.c:abcdefghijklm.", at(1, 10));
        canons(with(NAT), "[abcdefghijkl:nat]abcdefghijkl", "[x0:nat]x0");
        canonFault(NAT, "[abcdefghijklm:nat]z", at(1, 1));
        declares("", many("x", 4000), at(1, 0));
    }

    private static void allElseIsNone() {
        says("signs { } [ ] ( ) : . = ; >; all else (a longer WORD, too, at its first sign) is none.");
        for (char sign = 33; sign < 127; sign++) {
            if (Character.isLetterOrDigit(sign) || SIGNS.indexOf(sign) >= 0) continue;
            declares("", "a : type " + sign + " .", at(1, 9));
            declares("", "a : " + sign + "type .", at(1, 4));
            canonFault(NAT, "s" + sign + "z", at(1, 1));
            due("named nat" + sign, with(NAT).named("nat" + sign), -1);
        }
        canonFault(NAT, "s abcdefghijklmn # z", at(1, 2));
        canonFault(NAT, "s 1", at(1, 2));
        canonFault(NAT, "s # abcdefghijklmn", at(1, 2));
        due("named of a longer WORD", with(NAT).named("natnatnatnatn"), -1);
    }

    private static void onePOrMore() {
        says("A: one P or more behind one another.");
        canonFault(NAT, "", at(1, 0));
        canonFault(NAT, "  ", at(1, 2));
        canonFault(NAT, "( )", at(1, 2));
        canonFault(NAT, "s ( )", at(1, 4));
        canonFault(NAT, "[ x : ] z", at(1, 6));
        canonFault(NAT, "[ x : nat ]", at(1, 11));
        declares(NAT, "a : .", at(1, 4));
        declares(NAT, "a : { x : } nat .", at(1, 10));
        declares(NAT, "a : { x : nat } .", at(1, 16));
        declares(NAT, "a : > nat .", at(1, 4));
        declares(NAT, "a : nat > .", at(1, 10));
        declares(NAT, "a : nat = .", at(1, 10));
        due("equal, nothing ahead", with(NAT).equal("; z"), -1 - at(1, 0));
        due("equal, nothing behind", with(NAT).equal("z ;"), -1 - at(1, 3));
        canonFault(NAT, "s [ x : nat ] x", at(1, 2));
        canonFault(NAT, "s { x : nat } x", at(1, 2));
        canons(with(NAT), "( s ) ( ( z ) )", "s z");
    }

    private static void expressions() {
        says("E: { VAR : E } E | [ VAR : E ] E | A > E | A.");
        // What stands behind goes as far as it can.
        types(with(NAT), "[ f : { x : nat } nat > nat ] f", "{x0:{x0:nat}{x1:nat}nat}{x1:nat}{x2:nat}nat");
        types(with(NAT), "[ f : nat > { x : nat } nat > nat ] z", "{x0:{x0:nat}{x1:nat}{x2:nat}nat}nat");
        canons(with(NAT), "[ x : nat ] s x", "[x0:nat]s x0");
        declares(INDEXED, "a : { n : nat } v n > v n .", 0);
        declares(INDEXED, "a : ( { n : nat } v n ) > v n .", at(2, 28));
        declares(INDEXED, "a : v z > v ( s z ) > nat .", 0);
        canonFault(NAT, "s [ x : nat ] x", at(1, 2));
        declares(NAT, "a : nat { x : nat } nat .", at(1, 8));
        declares(NAT, "a : { x : nat nat .", at(1, 18));
        declares(NAT, "a : { x y : nat } nat .", at(1, 8));
        declares(NAT, "a : { } nat .", at(1, 6));
        declares(NAT, "a : nat > > nat .", at(1, 10));
    }

    private static void parts() {
        says("P: NAME, type, ( E ).");
        declares(NAT, "a : ( ( { x : ( nat ) } ( ( nat ) > ( type ) ) ) ) .", 0);
        canons(with(NAT), "( ( [ x : ( nat ) ] ( s ( x ) ) ) ( z ) )", "s z");
        canonFault(NAT, "s ( z", at(1, 5));
        canonFault(NAT, "s z )", at(1, 4));
        canonFault(NAT, "s ( z ) )", at(1, 8));
        canonFault(NAT, "s ( z ; z )", at(1, 6));
        canonFault(NAT, "s ( z . )", at(1, 6));
    }

    private static void wordsButType() {
        says("VARS, NAMES are WORDS but type.");
        declares(NAT, "type : nat .", at(1, 0));
        declares(NAT, "a : { type : nat } nat .", at(1, 6));
        canonFault(NAT, "[ type : nat ] z", at(1, 2));
        due("named type", with(NAT).named("type"), -1);
        declares("", "Type : type . typ : type . types : type . tYPE : type . type0 : type .", 0);
        canons(with(NAT), "[ types : nat ] types", "[x0:nat]x0");
        declares(NAT, "a : { ( : nat } nat .", at(1, 6));
        canonFault(NAT, "[ 0x : nat ] z", at(1, 2));
    }

    private static void arrowIsBracesWithAVarThatStandsNowhere() {
        says("A > E is { } with a VAR that stands nowhere.");
        declares(NAT, "a : nat > nat = s . b : { x : nat } nat = a . c : nat > nat = b .", 0);
        declares(NAT, "a : nat > nat > nat . b : nat > ( nat > nat ) = a . c : ( nat > nat ) > nat = a .", at(7, 78));
        types(with(NAT), "[ f : nat > nat ] f", "{x0:{x0:nat}nat}{x1:nat}nat");
        // No NAME means it, and it keeps none of those about it from sight.
        declares(INDEXED, "a : nat > v n .", at(2, 12));
        types(with(INDEXED), "[ n : nat ] [ y : nat > v n > v n ] z", "{x0:nat}{x1:{x1:nat}{x2:v x0}v x0}nat");
        due("it is counted as one that is wanted", with(NAT + "a : nat > { x : nat } nat > nat . ").it.constant(3, 1), 3);
    }

    private static void nearestVar() {
        says("A NAME is the VAR of the nearest { }, [ ] about it (behind their ] or }) of that name, else a constant.");
        Bench bench = with(INDEXED);
        canons(bench, "[ x : nat ] [ x : nat ] x", "[x0:nat][x1:nat]x1");
        canons(bench, "[ x : nat ] ( [ x : nat ] x ) x", "[x0:nat]x0");
        canons(bench, "[ z : nat ] p z ( s z )", "[x0:nat]p x0 (s x0)");
        canons(bench, "p ( ( [ z : nat ] z ) ( s z ) ) z", "p (s z) z");
        // In F, ahead of the ] or }, the VAR is not yet there.
        canons(bench, "[ z : v z ] z", "[x0:v z]x0");
        types(bench, "[ n : nat ] [ n : v n ] n", "{x0:nat}{x1:v x0}v x0");
        declares(INDEXED, "a : { z : v z } v z .", at(7, 18));
        declares(INDEXED, "a : { n : v n } nat .", at(2, 12));
        due("a VAR as a family", bench.canon("[ nat : nat ] [ x : nat ] x"), at(6, 20));
        due("behind its ( ) it is gone", bench.canon("s ( ( [ x : nat ] x ) x )"), at(2, 22));
        due("the other E of a query has none of it", bench.equal("[ x : nat ] x ; x"), -1 - at(2, 16));
        declares(NAT, "a : { x : nat } nat = x .", at(2, 22));
    }

    /** Well formed behind g : nat > .. > nat (30), with so many P: 571 to 601. */
    private static String wide(int parts) {
        int rest = parts - 31;
        StringBuilder text = new StringBuilder("g");
        for (int i = 0; i < 30; i++) {
            text.append(i < rest / 31 ? "(g" + many(" z", 30) + ")" : i < rest / 31 + rest % 31 ? "(z)" : " z");
        }
        return text.toString();
    }

    private static int lastZ(String text) { return text.lastIndexOf('z'); }

    private static final String WIDE = INDEXED + "g : " + many("nat>", 30) + "nat . ";

    private static void atMost600() {
        says("At most 600 P, { }, [ ] and > in one E (a whole one, as a declaration, a query tells it)");
        due("600 P, canon", with(WIDE).canon(wide(600)), 0);
        due("601 P, canon", with(WIDE).canon(wide(601)), at(5, lastZ(wide(601))));
        due("600 P, type", with(WIDE).type(wide(600)), 0);
        due("601 P, type", with(WIDE).type(wide(601)), at(5, lastZ(wide(601))));
        String ahead = "a:v(";
        due("v, ( ) and 598 P are 600", with(WIDE).declare(ahead + wide(598) + ")."), 0);
        due("v, ( ) and 599 P are 601", with(WIDE).declare(ahead + wide(599) + ")."), at(5, ahead.length() + lastZ(wide(599))));
        due("600 with a > and what is behind", with(WIDE).declare(ahead + wide(596) + ")>nat."), 0);
        due("601, the P behind the >", with(WIDE).declare(ahead + wide(597) + ")>nat."), at(5, ahead.length() + wide(597).length() + 2));
        due("601, the >", with(WIDE).declare(ahead + wide(598) + ")>nat."), at(5, ahead.length() + wide(598).length() + 1));
        String first = "a:{x:v(";
        due("600 with two { }", with(WIDE).declare(first + wide(594) + ")}{y:nat}nat."), 0);
        due("601, the last P", with(WIDE).declare(first + wide(595) + ")}{y:nat}nat."), at(5, first.length() + wide(595).length() + 9));
        due("601, the P within the second { }", with(WIDE).declare(first + wide(596) + ")}{y:nat}nat."), at(5, first.length() + wide(596).length() + 5));
        due("601, the second {", with(WIDE).declare(first + wide(597) + ")}{y:nat}nat."), at(5, first.length() + wide(597).length() + 2));
        String bound = "[x:v(";
        due("600 with two [ ]", with(WIDE).canon(bound + wide(594) + ")][y:nat]z"), 0);
        due("601, the second [", with(WIDE).canon(bound + wide(597) + ")][y:nat]z"), at(5, bound.length() + wide(597).length() + 2));
        due("601, a ( ) at its (", with(WIDE).canon(wide(600) + "(z)"), at(5, wide(600).length()));
    }

    private static void each600IsAWholeOne() {
        says("(a whole one, as a declaration, a query tells it)");
        String wide = wide(598);
        due("600 behind the : and 600 behind the =", with(WIDE).declare("a:v(" + wide + ")=m(" + wide + ")."), 0);
        due("600 ahead of the ; and 600 behind it", with(WIDE).equal(wide(600) + ";" + wide(600)), 1);
        due("601 behind the ;", with(WIDE).equal(wide(600) + ";" + wide(601)), -1 - at(5, wide(600).length() + 1 + lastZ(wide(601))));
        due("600 in each declaration", with(WIDE).declare("a:v(" + wide + ").b:v(" + wide + ")."), 0);
        // What stands in ( ) is no whole one.
        due("300 and 301 in ( )", with(WIDE).canon("z(z" + many(" z", 297) + ")(z" + many(" z", 299) + ")"), at(5, 1 + 2 + 594 + 1 + 2 + 598 - 1));
    }

    private static void atMost40WithinOneAnother() {
        says("40 E, P within one another");
        due("E and P by turns, 40", with(NAT).canon(many("(", 19) + "z" + many(")", 19)), 0);
        due("41: the E in the 20th ( )", with(NAT).canon(many("(", 20) + "z" + many(")", 20)), at(5, 20));
        due("E in [ ], 39 and their P", with(NAT).canon(many("[x:nat]", 38) + "x"), 0);
        due("41: the P of the 39th F", with(NAT).canon(many("[x:nat]", 39) + "x"), at(5, 38 * 7 + 3));
        due("E in { }, 39 and their P", with(NAT).declare("a:" + many("{x:nat}", 38) + "nat."), 0);
        due("41: the P of the 39th F of { }", with(NAT).declare("a:" + many("{x:nat}", 39) + "nat."), at(5, 2 + 38 * 7 + 3));
        due("E behind >, 39 and their P", with(NAT).declare("a:" + many("nat>", 38) + "nat."), 0);
        due("41: the P behind the 39th >", with(NAT).declare("a:" + many("nat>", 39) + "nat."), at(5, 2 + 39 * 4));
        due("41: the E behind the 40th > is told later than the P ahead of it", with(NAT).declare("a:" + many("nat>", 40) + "nat."), at(5, 2 + 39 * 4));
        due("41: an [ in the 20th ( )", with(NAT).canon(many("s(", 20) + "[x:nat]x" + many(")", 20)), at(5, 40));
        due("19 ( ) and what is behind one another", with(NAT).canon(many("s(", 19) + "s z" + many(")", 19)), 0);
        due("[ ] in 18 ( ), 38, F and P", with(NAT).canon(many("(", 18) + "[x:nat]x" + many(")", 18)), 0);
        due("[ ] in 19 ( ): the P of its F", with(NAT).canon(many("(", 19) + "[x:nat]x" + many(")", 19)), at(5, 19 + 3));
        due("in F as well", with(NAT).declare("a:" + many("{x:", 38) + "nat" + many("}nat", 38) + "."), 0);
        due("in F, 41", with(NAT).declare("a:" + many("{x:", 39) + "nat" + many("}nat", 39) + "."), at(5, 2 + 39 * 3));
        due("those that have ended do not count", with(NAT).declare("a:" + many("(nat)>", 30) + "(nat)."), 0);
    }

    private static void atMost100Constants() {
        says("100 constants");
        StringBuilder text = new StringBuilder();
        for (int k = 0; k < 99; k++) text.append("a").append(k).append(":type.");
        Bench bench = with(text.toString());
        due("the 100th", bench.declare("last:type."), 0);
        due("its number", bench.named("last"), 99);
        due("the 101st", bench.declare(" more:type."), at(5, 1));
        due("100 still", bench.it.count(0), 100);
        due("the 101st is none", bench.named("more"), -1);
        due("queries go on", bench.canon("last"), at(6, 0));
        due("one is forgotten", bench.forget(1), 99);
        due("one has room", bench.declare("one:type.two:type."), at(5, 9));
        due("the first of them was taken", bench.named("one"), 99);
        due("all in one", new Bench().declare(text + "x:type.y:type."), at(5, text.length() + 7));
    }

    private static void kinds() {
        says("A KIND is type, or { x : F } K, F a FAMILY.");
        declares(NAT, "a : type .", 0);
        declares(NAT, "a : { x : nat } type .", 0);
        declares(NAT, "a : { x : type } type .", at(6, 10));
        declares(NAT, "a : type > type .", at(6, 4));
        declares(NAT, "a : ( nat > type ) > type .", at(6, 12));
        declares(NAT, "a : { x : z } type .", at(6, 10));
        declares(NAT, "a : type type .", at(6, 4));
    }

    private static void families() {
        says("A FAMILY is { x : F } F, or a constant that is a family with objects behind it.");
        declares(INDEXED, "a : v z .", 0);
        declares(INDEXED, "a : { x : nat } v x .", 0);
        declares(INDEXED, "a : { x : v z } { y : nat } v ( s y ) .", 0);
        declares(INDEXED, "a : { v : nat } v .", at(6, 16));
        declares(INDEXED, "a : { v : nat > nat } v z .", at(6, 22));
        declares(INDEXED, "a : ( v ) z .", at(6, 4));
        declares(INDEXED, "a : m z .", at(6, 4));
    }

    private static void objects() {
        says("An OBJECT is a VAR, a constant that is an object, [ x : F ] M, or an object with one behind it or more.");
        Bench bench = with(NAT + "p : nat > nat > nat . d : nat = z . ");
        canons(bench, "[ x : nat ] x", "[x0:nat]x0");
        canons(bench, "z", "z");
        canons(bench, "d", "z");
        canons(bench, "s z", "s z");
        canons(bench, "p z z", "p z z");
        canons(bench, "( p z ) z", "p z z");
        canons(bench, "( [ x : nat ] [ y : nat ] p y x ) z ( s z )", "p (s z) z");
        due("[ x : F ] of what is no OBJECT", bench.canon("[ x : nat ] nat"), at(6, 12));
    }

    private static void whatStandsBehindTells() {
        says("Of { x : F } and > what stands behind tells which it is.");
        Bench bench = with(NAT + "a : nat > type . b : nat > nat . c : { x : nat } nat > type . d : { x : nat } { y : nat } nat . ");
        due("> type", bench.it.constant(3, 0), 0);
        due("> nat", bench.it.constant(4, 0), 1);
        due("{ } > type", bench.it.constant(5, 0), 0);
        due("{ } { } nat", bench.it.constant(6, 0), 1);
        declares(NAT, "a : nat > z .", at(6, 10));
        declares(NAT, "a : { x : nat } ( x ) > type .", at(6, 18));
    }

    private static void bracketsAreWhatIsInside() {
        says("( E ) is what E is.");
        Bench bench = with("nat : ( ( type ) ) . z : ( nat ) . s : ( ( nat ) > ( nat ) ) . f : ( nat > ( nat > ( type ) ) ) . ");
        due("( ( type ) )", bench.it.constant(0, 0), 0);
        due("( nat )", bench.it.constant(1, 0), 1);
        due("wants one", bench.it.constant(2, 1), 1);
        due("a KIND", bench.it.constant(3, 0), 0);
        due("wants two", bench.it.constant(3, 1), 2);
        canons(bench, "( ( s ) ( ( z ) ) )", "s z");
        due("a family where an OBJECT is wanted", bench.canon("( nat )"), at(6, 2));
    }
}
