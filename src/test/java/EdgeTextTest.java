/** Boundary cases of the terms that tell what a world and its text are, and of faults, sentence by sentence. */
public final class EdgeTextTest extends HelperCheck {
    private static final String TWELVE = "type A;type B;type C;type D;type E;type F;type G;type H;type I;type J;type K;type L";
    private static final String FIVE_TYPES = "type A;type B;type C;type D;type E;type F of ";
    private static final String FIVE_TRAITS = "trait A;trait B;trait C;trait D;trait E;type F uses ";
    private static final String USE = "trait T;type A uses T(";
    private static final int BLANKS = 0x20202020;

    public static void main(String[] args) throws Exception {
        HelperEdges.run(EdgeTextTest.class, 0, 0);
    }

    // ---- an object, a WORLD

    @HelperPromise(value = 0, says = "An object is used for at most 512 calls after it has been made")
    static void the512thCallIsAnswered() {
        TraitLines x = new TraitLines();
        x.feed(0x74797065, 0x20413A61, 0x3F202020, BLANKS, BLANKS);
        x.tell();
        for (int call = 3; call <= 510; call++) {
            due("give, call " + call, x.give(0, 0, call), 1);
        }
        due("undo, call 511", x.undo(), 9);
        due("send, call 512", x.send(0, 0, 1), 509);
    }

    @HelperPromise(value = 0, says = "NONE = -1")
    static void none() {
        due("NONE", TraitLines.NONE, -1);
    }

    @HelperPromise(value = 0, says = "UNITS 0, 1, .., 12 at most")
    static void twelveUnits() {
        TraitLines x = told(TWELVE);
        due("units", x.count(0), 12);
        due("the last one's name", x.unit(11, 1), 11);
        due("no 13th", x.unit(12, 1), -1);
        fault(TWELVE + ";^type M", 3);
    }

    @HelperPromise(value = 0, says = "each with a NAME (A to Z, no two alike)")
    static void namesAToZ() {
        TraitLines x = told("type Z;trait A");
        due("Z", x.unit(0, 1), 25);
        due("A", x.unit(1, 1), 0);
        fault("type ^@", 1);
        fault("type ^[", 1);
        fault("type ^a", 1);
        fault("type ^z", 1);
        fault("type ^\u00c1", 1);
        fault("type Z;trait A;type ^Z", 2);
    }

    @HelperPromise(value = 0, says = "A TYPE has up to 4 PARENTS, a row of unlike TYPES told ahead of it")
    static void upToFourParents() {
        due("none", told("type A").unit(0, 2), 0);
        TraitLines x = told("type A;type B;type C;type D;type E of D C B A");
        due("four", x.unit(4, 2), 4);
        due("the last", x.parent(4, 3), 0);
        fault(FIVE_TYPES + "A B C D ^E", 3);
        fault(FIVE_TYPES + "A ^A", 2);
        fault(FIVE_TYPES + "^F", 2);
        fault("trait T;type A of ^T", 2);
    }

    @HelperPromise(value = 0, says = "A UNIT uses up to 4 TRAITS, a row of unlike ones told ahead of it")
    static void upToFourTraits() {
        due("none", told("type A").unit(0, 3), 0);
        TraitLines x = told("trait A;trait B;trait C;trait D;type E uses D C B A;trait F uses A B C D");
        due("four of a type", x.unit(4, 3), 4);
        due("the last", x.used(4, 3), 0);
        due("four of a trait", x.unit(5, 3), 4);
        fault(FIVE_TRAITS + "A B C D ^E", 3);
        fault(FIVE_TRAITS + "A ^A", 2);
        fault("type A;type B uses ^A", 2);
        fault("trait T uses ^T", 2);
        fault("type A uses ^T;trait T", 2);
    }

    @HelperPromise(value = 0, says = "each with up to 6 CHANGES: a MEMBER of it is left out, or becomes another one")
    static void upToSixChanges() {
        TraitLines x = told("trait S;trait T;type A uses S(-a b>c -c d>z z>a -f)T(-a -b -c -d -e -f)");
        due("the 6th", x.becomes(2, 0, 5), -2);
        due("the 5th", x.becomes(2, 0, 25), 0);
        due("the 6th of the other use", x.becomes(2, 1, 5), -2);
        due("a 7th", x.change(2, 0, 6, 7), -3);
        fault(USE + "-a b>c -c d>z z>a -f ^-g)", 3);
        fault(USE + "^)", 1);
    }

    @HelperPromise(value = 0, says = "(told to become itself it stays: no CHANGE, but it counts in its text)")
    static void toBecomeItself() {
        TraitLines x = told(USE + "a>a b>b c>c d>d e>e f>f)");
        due("it stays", x.becomes(1, 0, 0), 0);
        for (int n = 1; n <= 6; n++) {
            due("none of them is a change", x.change(1, 0, 10 + n, -1), n);
        }
        fault(USE + "a>a b>b c>c d>d e>e f>f ^g>h)", 3);
        fault(USE + "a>a b>b c>c d>d e>e f>f ^-g)", 3);
        fault(USE + "-a -b -c -d -e -f ^g>g)", 3);
    }

    @HelperPromise(value = 0, says = "A UNIT has up to 8 own MEMBERS, each a letter a to z")
    static void upToEightMembers() {
        due("none", told("type A").unit(0, 4), 0);
        due("a and z", told("trait A:z?a=z").unit(0, 4), bits(0, 25));
        TraitLines x = told("type A:a?b?c?d?e?f?g=1 h=2;trait B:s=1 t=1 u=1 v=1 w=1 x=1 y=1 z?");
        due("eight of a type", x.unit(0, 4), 255);
        due("eight of a trait", x.unit(1, 4), 255 << 18);
        fault("type A:a?b?c?d?e?f?g=1 h=2 ^i=3", 3);
        fault("type A:^`?", 1);
        fault("type A:^{?", 1);
        fault("type A:a?^{", 1);
    }

    @HelperPromise(value = 0, says = "or with a BODY: 1 to 4 TERMS: NUMBERS 0 to 999, super, MEMBERS")
    static void oneToFourTerms() {
        TraitLines x = told("type A:a=0 b=999+super+a+z");
        due("one", x.body(0, 0, -1), 1);
        due("0", x.body(0, 0, 0), 0);
        due("four", x.body(0, 1, -1), 4);
        due("999", x.body(0, 1, 0), 999);
        due("the fourth", x.body(0, 1, 3), 1026);
        fault("type A:a=^", 1);
        fault("type A:a=^1000", 2);
        fault("type A:a=999+super+a+z+^1", 3);
    }

    @HelperPromise(value = 0, says = "At first there is nothing.")
    static void atFirstNothing() {
        TraitLines x = new TraitLines();
        for (int what = 0; what <= 10; what++) {
            due("count(" + what + ")", x.count(what), 0);
        }
        for (int name = 0; name < 26; name++) {
            due("find(" + name + ")", x.find(name), -1);
        }
        due("unit(0, 0)", x.unit(0, 0), -1);
    }

    // ---- a TEXT

    @HelperPromise(value = 0, says = "A TEXT of at most 400 bytes: [ UNIT { ; UNIT } ].")
    static void textsOfNoneAndOf400Bytes() {
        due("an empty text", new TraitLines().tell(), 0);
        good("    ", 0);
        good("type A", 1);
        good("type A;type B", 2);
        String full = "type A" + " ".repeat(386) + ";trait B";
        due("its bytes", full.length(), 400);
        good(full, 2);
        fault(full.substring(0, 393) + "trait ^A", 2);
        fault("type A" + " ".repeat(393) + ";^", 1);
        fault("^;", 1);
        fault("type A;^", 1);
        fault("^;type A", 1);
        fault("type A;^;type B", 1);
        fault("type A ^type B", 1);
    }

    @HelperPromise(value = 0, says = "UNIT: type NAME [ of NAME { NAME } ] [ uses USE { USE } ] [ : OWN { OWN } ] "
        + "| trait NAME [ uses USE { USE } ] [ : OWN { OWN } ].")
    static void partsOfUnits() {
        String ahead = "type A;type B;trait S;trait T;";
        for (String of : new String[] {"", " of A", " of A B"}) {
            for (String uses : new String[] {"", " uses S", " uses S T"}) {
                for (String own : new String[] {"", ":a?", ":a? b?"}) {
                    good(ahead + "type Z" + of + uses + own, 5);
                    good(ahead + "trait Z" + uses + own, 5);
                    good(ahead + "type Z" + of + uses + own + ";type Y", 6);
                }
            }
        }
        fault(ahead + "type Z of^", 1);
        fault(ahead + "type Z of ^uses S", 1);
        fault(ahead + "type Z of ^:a?", 1);
        fault(ahead + "type Z uses ^:a?", 1);
        fault(ahead + "type Z uses ^;", 1);
        fault(ahead + "type Z:^", 1);
        fault(ahead + "type Z:^;", 1);
        fault(ahead + "trait Z ^of A", 1);
        fault(ahead + "type Z uses S ^of A", 1);
        fault(ahead + "type Z:a? ^uses S", 1);
        fault(ahead + "type Z:a? ^of A", 1);
        fault(ahead + "type Z of A ^of B", 1);
        fault(ahead + "type Z uses S ^uses T", 1);
        fault(ahead + "type Z:a?^:b?", 1);
    }

    @HelperPromise(value = 0, says = "USE: NAME [ ( CHANGE { CHANGE } ) ]. CHANGE: - m | m > m.")
    static void partsOfUses() {
        good("trait T;type A uses T", 2);
        good(USE + "-a)", 2);
        good(USE + "a>b)", 2);
        good(USE + "-a b>c -d)", 2);
        fault(USE + "^", 1);
        fault(USE + "^)", 1);
        fault(USE + "-^)", 1);
        fault(USE + "-^", 1);
        fault(USE + "-a^", 1);
        fault(USE + "-a^;type B", 1);
        fault(USE + "-a^>b)", 1);
        fault(USE + "^>b)", 1);
        fault(USE + "a^)", 1);
        fault(USE + "a>^)", 1);
        fault(USE + "a>^-b)", 1);
        fault(USE + "a>b^>c)", 1);
        fault(USE + "a>b^?)", 1);
        fault(USE + "-a)^(-b)", 1);
        fault(USE + "-a)^)", 1);
        fault("trait T;type A uses ^(-a)", 1);
        fault("trait T;type A uses T^)", 1);
        fault("type A;type B of A^(-a)", 1);
    }

    @HelperPromise(value = 0, says = "OWN: m ? | m = TERM { + TERM }. TERM: NUMBER | super | m.")
    static void partsOfOwns() {
        good("type A:a?", 1);
        good("type A:a=1", 1);
        good("type A:a=super", 1);
        good("type A:a=a", 1);
        good("type A:a=1+super+a b?c=b", 1);
        fault("type A:a^", 1);
        fault("type A:a^;", 1);
        fault("type A:a^+1", 1);
        fault("type A:^?", 1);
        fault("type A:^=1", 1);
        fault("type A:^1", 1);
        fault("type A:a?^?", 1);
        fault("type A:a?^=1", 1);
        fault("type A:a?^+1", 1);
        fault("type A:a=^", 1);
        fault("type A:a=^?", 1);
        fault("type A:a=^=1", 1);
        fault("type A:a=^+1", 1);
        fault("type A:a=^A", 1);
        fault("type A:a=1+^", 1);
        fault("type A:a=1+^+1", 1);
        fault("type A:a=1+^;", 1);
        fault("type A:a=1 ^1", 1);
        fault("type A:a=1 ^super", 1);
        fault("type A:a=1 b^", 1);
    }

    @HelperPromise(value = 0, says = "A NAME is one capital; an m is a WORD of one letter.")
    static void namesAndMembersOfOneSign() {
        fault("type A^B", 1);
        fault("type A;type B of A^B", 2);
        fault("type ^ab", 1);
        fault("type A:^ab?", 1);
        fault("type A:^zz?", 1);
        fault("type A:^za?", 1);
        fault("type A:^az?", 1);
        fault("type A:a^B?", 1);
        fault("type A:a=^ab", 1);
        fault("type A:a=1+^supe", 1);
        fault("type A:a=1+^superb", 1);
        fault(USE + "^ab>c)", 1);
        fault(USE + "-^ab)", 1);
        fault(USE + "a>^bc)", 1);
    }

    @HelperPromise(value = 0, says = "WORDS are small letters, NUMBERS digits, as far as they go on")
    static void wordsAndNumbersAsFarAsTheyGo() {
        good("typeA;traitT;typeBofAusesT:a=1b=2c?", 3);
        due("1 and then b", told("type A:a=1b=2").unit(0, 4), 3);
        due("all the digits", told("type A:a=0000000999").body(0, 0, 0), 999);
        fault("^typetype A", 1);
        fault("^typ", 1);
        fault("^types A", 1);
        fault("type A^off B", 1);
        fault("trait T;type A ^usesx T", 1);
        fault("type A:a=^9990", 2);
        fault("type A:a=9^/", 1);
        fault("type A:a=9^:", 1);
        fault("type A:a=^/", 1);
        fault("type A:a=1 b=^:", 1);
        fault("type^1 A", 1);
    }

    @HelperPromise(value = 0, says = "blanks (32) stand between as one likes")
    static void blanks() {
        good("   type   A  ;  trait  T  ;  type B  of  A  uses  T  (  -  a  b  >  c  )  :  a  ?  b  =  1  +  super  +  a  ", 3);
        good("typeA;traitT;typeBofAusesT(-a b>c):a?b=1+super+a", 3);
        fault("^t ype A", 1);
        fault("type A:a=1 ^2", 1);
        fault("type A:a=1+^su per", 1);
        for (char other : new char[] {0, 9, 10, 13, 31, 33, 127, 128, 160, 255}) {
            fault("type^" + other + "A", 1);
            fault("type A^" + other, 1);
            fault("^" + other + "type A", 1);
        }
    }

    // ---- its FAULT

    @HelperPromise(value = 0, says = "of the first place along it that is wrong (0 the first byte), 8 times the place and:")
    static void firstPlace() {
        due("place 0", tellText(new TraitLines(), "x"), -2 - 1);
        due("place 1", tellText(new TraitLines(), " x"), -2 - 9);
        due("place 5", tellText(new TraitLines(), "type a"), -2 - 41);
        due("place 9 at the earliest of many", tellText(new TraitLines(), "type A:a=1000+1000 x;type A;;"), -2 - 74);
        String late = "type A" + " ".repeat(393);
        due("place 399", tellText(new TraitLines(), late + "x"), -2 - (8 * 399 + 1));
        due("place 400", tellText(new TraitLines(), late + ";"), -2 - (8 * 400 + 1));
        // 2 and 3 ahead of a 1 that comes later
        fault("type A;type ^A;;", 2);
        fault(FIVE_TYPES + "A B C D ^E x", 3);
        fault("type A:a?^a", 2);
        fault(USE + "-a -b -c -d -e -f ^-", 3);
        fault(USE + "a>b ^a", 2);
    }

    @HelperPromise(value = 0, says = "1 a byte or WORD that cannot stand there")
    static void cannotStandThere() {
        for (char sign = 0; sign < 256; sign++) {
            if (sign != ' ') {
                fault("^" + sign, 1);
            }
            if (sign != ' ' && sign != ';' && sign != ':') {
                fault("type A^" + sign, 1);
            }
            if (sign != ' ' && (sign < 'A' || sign > 'Z')) {
                fault("type ^" + sign, 1);
            }
            if (sign != ' ' && sign != '?' && sign != '=') {
                fault("type A:z ^" + sign, 1);
            }
        }
        // one letter of a WORD otherwise
        for (String word : new String[] {"type", "trait"}) {
            for (int k = 0; k < word.length(); k++) {
                fault("^" + word.substring(0, k) + "x" + word.substring(k + 1) + " A", 1);
            }
        }
        fault("type A;type B ^xf A", 1);
        fault("type A;type B ^ox A", 1);
        for (int k = 0; k < 5; k++) {
            fault("trait A;type B ^" + "uses".substring(0, Math.min(k, 4)) + "x" + "uses".substring(Math.min(k + 1, 4)) + " A", 1);
            fault("type A:a=^" + "super".substring(0, k) + "x" + "super".substring(k + 1), 1);
        }
        fault("^super A", 1);
        fault("^of A", 1);
        fault("type ^type", 1);
        fault("type A:^super", 1);
        fault("type A:a=^type", 1);
    }

    @HelperPromise(value = 0, says = "or the text ends (the place behind its last byte)")
    static void theTextEnds() {
        String whole = "trait T;type A;type B of A uses T(-a b>c):a=1";
        // at each of these ends another part is lacking
        for (int end : new int[] {5, 6, 8, 12, 13, 15, 19, 20, 24, 31, 34, 35, 36, 37, 38, 39, 40, 42, 43, 44}) {
            fault(whole.substring(0, end) + "^", 1);
            fault(whole.substring(0, end) + "   ^", 1);
        }
        for (int end : new int[] {0, 7, 14, 21, 26, 33, 41, 45}) {
            due("no fault at " + end, tellText(new TraitLines(), whole.substring(0, end)) >= 0 ? 1 : 0, 1);
        }
    }

    @HelperPromise(value = 0, says = "2 a NUMBER above 999")
    static void numbersAbove() {
        due("999", told("type A:a=999").body(0, 0, 0), 999);
        due("0", told("type A:a=000").body(0, 0, 0), 0);
        fault("type A:a=^1000", 2);
        fault("type A:a=1+^1000", 2);
        fault("type A:a=^0001000", 2);
        // these are 0, 1, 999 in an int or a long that wraps
        fault("type A:a=^4294967296", 2);
        fault("type A:a=^4294967297", 2);
        fault("type A:a=^4294968295", 2);
        fault("type A:a=^18446744073709551616", 2);
        fault("type A:a=^18446744073709552615", 2);
        fault("type A:a=^" + "9".repeat(391), 2);
        good("type A:a=" + "0".repeat(388) + "999", 1);
    }

    @HelperPromise(value = 0, says = "a NAME (m) that is not as told: a UNIT's that was told")
    static void unitsNameTold() {
        fault("type A;type ^A", 2);
        fault("type A;trait ^A", 2);
        fault("trait A;type ^A", 2);
        fault("type A;type B;type C;type ^A of B", 2);
        fault("type A;type B;type C;type ^C of B", 2);
    }

    @HelperPromise(value = 0, says = "no TYPE (of), no TRAIT (uses) told ahead")
    static void notToldAhead() {
        fault("type A of ^A", 2);
        fault("type A of ^B;type B", 2);
        fault("trait T;type A of ^T", 2);
        fault("type A;type B of A ^X", 2);
        fault("trait T uses ^T", 2);
        fault("trait T uses ^U;trait U", 2);
        fault("type A;type B uses ^A", 2);
        fault("trait T;type B uses T ^X", 2);
        fault("trait T;type B uses T(-a) ^B", 2);
    }

    @HelperPromise(value = 0, says = "one that is told in this row already")
    static void toldInThisRow() {
        fault("type A;type B of A ^A", 2);
        fault("type A;type B;type C of A B ^A", 2);
        fault("trait A;type C uses A ^A", 2);
        fault("trait A;trait B;type C uses A(-a) B ^A(b>c)", 2);
        good("type A;type B of A;type C of A", 3);
        good("trait A;trait B uses A;trait C uses A", 3);
    }

    @HelperPromise(value = 0, says = "the m ahead of > or behind - that was CHANGED in this USE already")
    static void changedAlready() {
        fault(USE + "a>b ^a>c)", 2);
        fault(USE + "a>b -^a)", 2);
        fault(USE + "-a ^a>c)", 2);
        fault(USE + "-a -^a)", 2);
        fault(USE + "z>b -c ^z>b)", 2);
        fault(USE + "a>a ^a>b)", 2);
        fault(USE + "a>a -^a)", 2);
        good(USE + "a>b b>a c>a -d)", 2);
        good("trait S;trait T;type A uses S(-a b>c)T(-a b>c)", 3);
        good(USE + "-a);type B uses T(-a)", 3);
    }

    @HelperPromise(value = 0, says = "an OWN's m that was told in this UNIT")
    static void ownToldAlready() {
        fault("type A:a?^a?", 2);
        fault("type A:a=1 ^a?", 2);
        fault("type A:a? b? ^a=1", 2);
        fault("type A:z=1 ^z=1", 2);
        good("type A:a?;type B:a?", 2);
        good("type A:a=a+a b=a", 1);
    }

    @HelperPromise(value = 0, says = "3 one too many: the WORD of a 13th UNIT")
    static void thirteenthUnit() {
        good(TWELVE, 12);
        fault(TWELVE + ";^type M", 3);
        fault(TWELVE + ";  ^trait M", 3);
        fault(TWELVE + ";^type", 3);
        fault(TWELVE + ";^", 1);
        fault(TWELVE + ";^M", 1);
        fault(TWELVE + ";^typ", 1);
    }

    @HelperPromise(value = 0, says = "the NAME of a 5th PARENT")
    static void fifthParent() {
        good(FIVE_TYPES + "A B C D", 6);
        fault(FIVE_TYPES + "A B C D ^E", 3);
        fault(FIVE_TYPES + "E D C B^A", 3);
        fault(FIVE_TYPES + "A B C D ^a", 1);
        good(FIVE_TYPES + "A B C D;type G of A", 7);
    }

    @HelperPromise(value = 0, says = "of a 5th USE")
    static void fifthUse() {
        good(FIVE_TRAITS + "A B C D", 6);
        fault(FIVE_TRAITS + "A B C D ^E", 3);
        fault(FIVE_TRAITS + "A(-a) B(-a) C(-a) D(-a)^E(-a)", 3);
        fault(FIVE_TRAITS + "A B C D ^e", 1);
    }

    @HelperPromise(value = 0, says = "the first byte of a 7th CHANGE")
    static void seventhChange() {
        good(USE + "-a -b -c d>a e>a f>a)", 2);
        fault(USE + "-a -b -c d>a e>a f>a ^-g)", 3);
        fault(USE + "-a -b -c d>a e>a f>a ^g>a)", 3);
        fault(USE + "-a -b -c d>a e>a f>a ^-a)", 3);
        fault(USE + "-a -b -c d>a e>a f>a ^-", 3);
        fault(USE + "-a -b -c d>a e>a f>a ^g", 3);
        fault(USE + "-a -b -c d>a e>a f>a ^gg", 1);
        fault(USE + "-a -b -c d>a e>a f>a^", 1);
    }

    @HelperPromise(value = 0, says = "the m of a 9th OWN")
    static void ninthOwn() {
        String eight = "type A:a?b?c?d?e=1f=1g=1h=1";
        good(eight, 1);
        good(eight + ";type B:i?", 2);
        fault(eight + "^i?", 3);
        fault(eight + "^i", 3);
        fault(eight + " ^i=1000", 3);
        fault(eight + " ^ii", 1);
    }

    @HelperPromise(value = 0, says = "the first byte of a 5th TERM")
    static void fifthTerm() {
        good("type A:a=1+1+1+1", 1);
        good("type A:a=1+1+1+1 b=1", 1);
        fault("type A:a=1+1+1+1+^1", 3);
        fault("type A:a=1+1+1+1+ ^super", 3);
        fault("type A:a=1+1+1+1+^a", 3);
        fault("type A:a=1+1+1+1+^", 1);
    }

    @HelperPromise(value = 0, says = "Each where it begins.")
    static void whereItBegins() {
        fault("type A:a=  ^1000  ", 2);
        fault("type A:a=1+1+1+1+  ^999", 3);
        fault("type A:a=1+1+1+1+  ^super", 3);
        fault("  ^trailing", 1);
        fault("type A;  type  ^A  ", 2);
        fault(TWELVE + " ;  ^trait", 3);
        fault(USE + "-a  -  ^a", 2);
        fault(USE + "-a -b -c -d -e -f  ^-  g", 3);
    }

    @HelperPromise(value = 0, says = "Of one place the least.")
    static void theLeastOfOnePlace() {
        fault(TWELVE + ";^typo A", 1);
        fault(FIVE_TYPES + "A B C D ^A", 2);
        fault(FIVE_TYPES + "A B C D ^F", 2);
        fault(FIVE_TRAITS + "A B C D ^A", 2);
        fault(FIVE_TRAITS + "A B C D ^Z", 2);
        fault(USE + "a>b b>b c>b d>b e>b f>b ^a>c)", 2);
        fault(USE + "a>b b>b c>b d>b e>b f>b ^aa>c)", 1);
        fault("type A:a?b?c?d?e?f?g?h?^h?", 2);
        fault("type A:a?b?c?d?e?f?g?h?^hh?", 1);
        fault("type A:a=1+1+1+1+^1000", 2);
        fault("type A:a=1+1+1+1+^aa", 1);
        fault("type A ^1000", 1);
        fault("type A:a=1 ^1000", 1);
    }
}
