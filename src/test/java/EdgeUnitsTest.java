/** Boundary cases of FLAT and of promises 16 to 21, sentence by sentence: what is told of units, and what they have. */
public final class EdgeUnitsTest extends HelperCheck {
    private static final String WHOLE = "trait Z:a=1 z?;trait A uses Z(-a);type M;type N;type O;type P;type Q of M N O P uses Z A:b=1 c?";

    public static void main(String[] args) throws Exception {
        HelperEdges.run(EdgeUnitsTest.class, 16, 21);
    }

    private static void nothingFlat(TraitLines x, int unit, char member) {
        flatIs(x, unit, member, -1, -1, -1, -1, -1);
    }

    private static void bodyFlat(TraitLines x, int unit, char member, int teller, char letter) {
        flatIs(x, unit, member, 1, teller, letter - 'a', -2, -2);
    }

    private static void requiredFlat(TraitLines x, int unit, char member) {
        flatIs(x, unit, member, 2, -2, -2, -2, -2);
    }

    // ---- FLAT

    @HelperPromise(value = 0, says = "Its own BODY, if it tells one.")
    static void ownBody() {
        TraitLines x = told("trait S:a=1;trait T:a=2;trait U uses S T;type A uses U:a=3;type B uses S T:a=super;trait V uses S:a=a");
        bodyFlat(x, 3, 'a', 3, 'a');
        bodyFlat(x, 4, 'a', 4, 'a');
        bodyFlat(x, 5, 'a', 5, 'a');
        due("take", x.take(3, 0), 0);
        flatIs(x, 3, 'a', 3, 0, 0, 1, 0);
        due("give", x.give(3, 0, 0), 0);
        bodyFlat(x, 3, 'a', 3, 'a');
    }

    @HelperPromise(value = 0, says = "Else what it is given, in this order: REQUIRED, if it tells so itself")
    static void requiredByItself() {
        TraitLines x = told("trait S:a=1;trait T:a?;type A:a?;type B uses S:a?;type C uses T:a?;type D uses S(-a):a?;type E");
        requiredFlat(x, 2, 'a');
        bodyFlat(x, 3, 'a', 0, 'a');
        requiredFlat(x, 4, 'a');
        requiredFlat(x, 5, 'a');
        nothingFlat(x, 6, 'a');
    }

    @HelperPromise(value = 0, says = "then of each TRAIT that it uses (in their row), by letters, what that has FLAT")
    static void byRowAndByLetters() {
        TraitLines x = told("trait S:b=1;trait T:a=2 c=3;type A uses S(b>z)T(a>z c>z);type B uses T(a>z c>z)S(b>z);"
            + "type C uses T(c>z)S(b>z);trait U uses T;type D uses U(a>z)");
        flatIs(x, 2, 'z', 3, 0, 1, 1, 0);
        flatIs(x, 3, 'z', 3, 1, 0, 1, 2);
        flatIs(x, 4, 'z', 3, 1, 2, 0, 1);
        bodyFlat(x, 4, 'a', 1, 'a');
        bodyFlat(x, 5, 'a', 1, 'a');
        bodyFlat(x, 6, 'z', 1, 'a');
        nothingFlat(x, 6, 'a');
        // the letters of the trait, not the order of the changes in the text
        x = told("trait T:a=1 y=2 z=3;type A uses T(z>m y>m a>m);type B uses T(y>z);type C uses T(a>z y>z)");
        flatIs(x, 1, 'm', 3, 0, 0, 0, 24);
        flatIs(x, 2, 'z', 3, 0, 24, 0, 25);
        flatIs(x, 3, 'z', 3, 0, 0, 0, 24);
    }

    @HelperPromise(value = 0, says = "under the letter it becomes there (nothing, if it is left out)")
    static void underTheLetterItBecomes() {
        TraitLines x = told("trait T:a=1 b? z=2;type A uses T(-a -b -z);type B uses T(a>b b>z z>a);type C uses T(a>a);type D uses T(c>d -e)");
        due("nothing", x.unit(1, 6), 0);
        nothingFlat(x, 1, 'a');
        bodyFlat(x, 2, 'b', 0, 'a');
        requiredFlat(x, 2, 'z');
        bodyFlat(x, 2, 'a', 0, 'z');
        bodyFlat(x, 3, 'a', 0, 'a');
        due("what it has not does not come", x.unit(4, 6), bits(0, 1, 25));
        // twice over: the letter is the one that it has there
        x = told("trait T:a=1;trait U uses T(a>b);trait V uses U(b>c);type A uses V(c>z -a -b)");
        bodyFlat(x, 3, 'z', 0, 'a');
        due("alone", x.unit(3, 6), bits(25));
    }

    @HelperPromise(value = 0, says = "Of several: a BODY goes ahead of REQUIRED")
    static void bodyAheadOfRequired() {
        TraitLines x = told("trait R:a?;trait T:a=1;type A uses R T;type B uses T R;type C uses R T:a?;trait S:a? b=1;type D uses S(b>a);type E uses S(a>b)");
        bodyFlat(x, 2, 'a', 1, 'a');
        bodyFlat(x, 3, 'a', 1, 'a');
        bodyFlat(x, 4, 'a', 1, 'a');
        bodyFlat(x, 6, 'a', 5, 'b');
        bodyFlat(x, 7, 'b', 5, 'b');
        // a conflict, too
        x = told("trait R:a?;trait S:a=1;trait T:a=1;type A uses R S T;type B uses S R T:a?");
        flatIs(x, 3, 'a', 3, 1, 0, 2, 0);
        flatIs(x, 4, 'a', 3, 1, 0, 2, 0);
    }

    @HelperPromise(value = 0, says = "BODIES that one UNIT tells under one letter are one")
    static void oneBody() {
        TraitLines x = told("trait T:a=1 b=1;trait U uses T;trait V uses T(a>c b>d);type A uses T U V(c>a d>b);type B uses U T(a>b b>a)");
        bodyFlat(x, 3, 'a', 0, 'a');
        bodyFlat(x, 3, 'b', 0, 'b');
        flatIs(x, 4, 'a', 3, 0, 0, 0, 1);
        flatIs(x, 4, 'b', 3, 0, 1, 0, 0);
        // the same number told by two units is not one
        x = told("trait S:a=1;trait T:a=1;type A uses S T");
        flatIs(x, 2, 'a', 3, 0, 0, 1, 0);
    }

    @HelperPromise(value = 0, says = "of two unlike BODIES, or with a CONFLICT among them, it is a CONFLICT")
    static void conflicts() {
        TraitLines x = told("trait S:a=1;trait T:a=2;trait U uses S T;type A uses S T;type B uses U;type C uses U S;type D uses S U;"
            + "type E uses U(-a)S;type F uses U:a?;type G uses S(a>b)T");
        flatIs(x, 2, 'a', 3, 0, 0, 1, 0);
        flatIs(x, 3, 'a', 3, 0, 0, 1, 0);
        flatIs(x, 4, 'a', 3, 0, 0, 1, 0);
        flatIs(x, 5, 'a', 3, 0, 0, 1, 0);
        flatIs(x, 6, 'a', 3, 0, 0, 1, 0);
        bodyFlat(x, 7, 'a', 0, 'a');
        flatIs(x, 8, 'a', 3, 0, 0, 1, 0);
        bodyFlat(x, 9, 'a', 1, 'a');
        bodyFlat(x, 9, 'b', 0, 'a');
    }

    @HelperPromise(value = 0, says = "its sources are the first two unlike ones that are given (a CONFLICT gives its two, the first first)")
    static void sourcesOfConflicts() {
        TraitLines x = told("trait P:a=1;trait Q:a=2;trait R:a=3;trait S uses Q R;trait T uses R Q;type A uses P Q R;type B uses S P;"
            + "type C uses P S;type D uses R S;type E uses T S;type F uses Q T");
        flatIs(x, 5, 'a', 3, 0, 0, 1, 0);
        flatIs(x, 6, 'a', 3, 1, 0, 2, 0);
        flatIs(x, 7, 'a', 3, 0, 0, 1, 0);
        flatIs(x, 8, 'a', 3, 2, 0, 1, 0);
        flatIs(x, 9, 'a', 3, 2, 0, 1, 0);
        flatIs(x, 10, 'a', 3, 1, 0, 2, 0);
        // a third unlike one does not come in
        x = told("trait P:a=1;trait Q:a=2;trait R:a=3;trait S uses P Q R;type A uses S R");
        flatIs(x, 3, 'a', 3, 0, 0, 1, 0);
        flatIs(x, 4, 'a', 3, 0, 0, 1, 0);
    }

    // ---- unit

    @HelperPromise(value = 16, says = "Of a UNIT what 0: 0 a TYPE, 1 a TRAIT, 1: its NAME (A to Z as 0 to 25)")
    static void kindAndName() {
        TraitLines x = told(WHOLE);
        due("a trait", x.unit(0, 0), 1);
        due("Z", x.unit(0, 1), 25);
        due("A", x.unit(1, 1), 0);
        due("a type", x.unit(6, 0), 0);
        due("Q", x.unit(6, 1), 16);
    }

    @HelperPromise(value = 16, says = "2: PARENTS, 3: TRAITS that it uses")
    static void howManyParentsAndTraits() {
        TraitLines x = told(WHOLE);
        due("parents of a trait", x.unit(0, 2), 0);
        due("no parents", x.unit(2, 2), 0);
        due("four parents", x.unit(6, 2), 4);
        due("no traits", x.unit(2, 3), 0);
        due("no traits of a trait", x.unit(0, 3), 0);
        due("a trait of a trait", x.unit(1, 3), 1);
        due("two traits", x.unit(6, 3), 2);
        due("four traits", told("trait A;trait B;trait C;trait D;trait E uses A B C D").unit(4, 3), 4);
    }

    @HelperPromise(value = 16, says = "4: own MEMBERS (bits), 5: those of them that are REQUIRED")
    static void ownMembers() {
        TraitLines x = told(WHOLE);
        due("a and z", x.unit(0, 4), bits(0, 25));
        due("z", x.unit(0, 5), bits(25));
        due("none own", x.unit(1, 4), 0);
        due("none own", x.unit(1, 5), 0);
        due("b and c", x.unit(6, 4), bits(1, 2));
        due("c", x.unit(6, 5), bits(2));
        x = told("type A:s?t?u?v?w?x?y?z?");
        due("eight", x.unit(0, 4), 255 << 18);
        due("all required", x.unit(0, 5), 255 << 18);
        x = told("type A:s=1t=1u=1v=1w=1x=1y=1z=1");
        due("none required", x.unit(0, 5), 0);
    }

    @HelperPromise(value = 16, says = "6: MEMBERS that it has FLAT (bits), 7: those that are BODIES, 8: REQUIRED, 9: in CONFLICT.")
    static void flatMembers() {
        TraitLines x = told("trait S:a=1 m? z=1;trait T:a=2 n=1 z=2;type A uses S T:z?;type B");
        int[] due = {bits(0, 12, 13, 25), bits(13), bits(12), bits(0, 25)};
        for (int what = 6; what <= 9; what++) {
            due("unit(2, " + what + ")", x.unit(2, what), due[what - 6]);
            due("unit(3, " + what + ")", x.unit(3, what), 0);
        }
        // a full trait used four times over: 26 letters
        x = told("trait S:a=1b=1c=1d=1e=1f=1g=1h=1;trait T:i=1j=1k=1l=1m=1n=1o=1p=1;trait U:q=1r=1s=1t=1u=1v=1w=1x=1;trait V:y? z?;type A uses S T U V");
        due("all letters", x.unit(4, 6), (1 << 26) - 1);
        due("bodies", x.unit(4, 7), (1 << 24) - 1);
        due("required", x.unit(4, 8), bits(24, 25));
        due("none in conflict", x.unit(4, 9), 0);
    }

    @HelperPromise(value = 16, says = "NONE without these.")
    static void unitWithoutThese() {
        TraitLines x = told(WHOLE);
        for (int no : noUnits(7)) {
            due("unit " + no, x.unit(no, 0), -1);
            due("unit " + no, x.unit(no, 6), -1);
        }
        for (int no : new int[] {-1, 10, 11, 32, LEAST, MOST}) {
            due("what " + no, x.unit(0, no), -1);
            due("what " + no, x.unit(6, no), -1);
        }
        due("in no world", new TraitLines().unit(0, 0), -1);
    }

    // ---- parent, used, becomes

    @HelperPromise(value = 17, says = "The k-th PARENT of a TYPE; NONE without these.")
    static void parentWithoutThese() {
        TraitLines x = told(WHOLE);
        for (int k = 0; k < 4; k++) {
            due("parent " + k, x.parent(6, k), 2 + k);
        }
        for (int no : noPlaces(4)) {
            due("place " + no, x.parent(6, no), -1);
        }
        for (int no : noPlaces(0)) {
            due("of none, place " + no, x.parent(2, no), -1);
        }
        for (int no : noUnits(7)) {
            due("type " + no, x.parent(no, 0), -1);
        }
        due("of a trait", x.parent(1, 0), -1);
        due("in no world", new TraitLines().parent(0, 0), -1);
        due("leave", x.leave(6, 5), 3);
        due("the 4th is gone", x.parent(6, 3), -1);
    }

    @HelperPromise(value = 18, says = "The k-th TRAIT that a UNIT uses; NONE without these.")
    static void usedWithoutThese() {
        TraitLines x = told("trait A;trait B;trait C;trait D;type E uses D B C A;trait F uses B;type G");
        int[] due = {3, 1, 2, 0};
        for (int k = 0; k < 4; k++) {
            due("trait " + k, x.used(4, k), due[k]);
        }
        due("of a trait", x.used(5, 0), 1);
        for (int no : noPlaces(4)) {
            due("place " + no, x.used(4, no), -1);
        }
        for (int no : noPlaces(0)) {
            due("of none, place " + no, x.used(6, no), -1);
        }
        for (int no : noUnits(7)) {
            due("unit " + no, x.used(no, 0), -1);
        }
        due("in no world", new TraitLines().used(0, 0), -1);
    }

    @HelperPromise(value = 19, says = "What a MEMBER of the k-th TRAIT that a UNIT uses becomes there: its letter; -2: it is left out")
    static void whatItBecomes() {
        TraitLines x = told("trait S:a=1 b=1 z=1;trait T;type A uses T(a>z z>a)S(-a b>z -z)");
        due("a of T", x.becomes(2, 0, 0), 25);
        due("z of T", x.becomes(2, 0, 25), 0);
        due("b of T", x.becomes(2, 0, 1), 1);
        due("a of S", x.becomes(2, 1, 0), -2);
        due("b of S", x.becomes(2, 1, 1), 25);
        due("z of S", x.becomes(2, 1, 25), -2);
        due("it stays", x.change(2, 0, 0, 0), 2);
        due("its letter", x.becomes(2, 1, 0), 0);
        due("it is left out", x.change(2, 1, 1, -1), 3);
        due("left out", x.becomes(2, 0, 1), -2);
    }

    @HelperPromise(value = 19, says = "NONE without these (whether the TRAIT has it or not)")
    static void becomesWithoutThese() {
        TraitLines x = told("trait S:a=1;trait T;type A uses S T(-c);trait U");
        due("it has it", x.becomes(2, 0, 0), 0);
        due("it has it not", x.becomes(2, 0, 1), 1);
        due("it has none", x.becomes(2, 1, 25), 25);
        due("it has it not, and it is left out", x.becomes(2, 1, 2), -2);
        for (int no : noUnits(4)) {
            due("unit " + no, x.becomes(no, 0, 0), -1);
        }
        for (int no : noPlaces(2)) {
            due("place " + no, x.becomes(2, no, 0), -1);
        }
        for (int no : noPlaces(0)) {
            due("of none, place " + no, x.becomes(3, no, 0), -1);
        }
        for (int no : NO_LETTERS) {
            due("letter " + no, x.becomes(2, 0, no), -1);
            due("letter " + no, x.becomes(2, 1, no), -1);
        }
        due("in no world", new TraitLines().becomes(0, 0, 0), -1);
    }

    // ---- body

    @HelperPromise(value = 20, says = "Of an own MEMBER of a UNIT the k-th TERM: a NUMBER as it is, super 1000, a MEMBER 1001 and its letter")
    static void termsOfBodies() {
        TraitLines x = told("trait T:a=0+999+super+a z=z;type A:m=007");
        int[] due = {0, 999, 1000, 1001};
        for (int k = 0; k < 4; k++) {
            due("term " + k, x.body(0, 0, k), due[k]);
        }
        due("the last letter", x.body(0, 25, 0), 1026);
        due("007", x.body(1, 12, 0), 7);
        due("give", x.give(0, 0, 998), 1);
        due("in its place", x.body(0, 0, 0), 998);
    }

    @HelperPromise(value = 20, says = "k NONE: how many (0: REQUIRED); -2: there are not so many")
    static void howManyTerms() {
        TraitLines x = told("type A:a=1 b=1+2 c=1+2+3 d=1+2+3+4 e?");
        for (int member = 0; member < 5; member++) {
            int terms = member == 4 ? 0 : member + 1;
            due("terms of " + member, x.body(0, member, -1), terms);
            for (int k : new int[] {terms, terms + 1, 4, 5, 26, 32, MOST}) {
                due("term " + k + " of " + member, x.body(0, member, k), -2);
            }
        }
        due("the last there is", x.body(0, 3, 3), 4);
        due("need", x.need(0, 3), 1);
        due("required", x.body(0, 3, -1), 0);
        due("the first", x.body(0, 3, 0), -2);
        due("give", x.give(0, 3, 7), 1);
        due("one", x.body(0, 3, -1), 1);
        due("no second", x.body(0, 3, 1), -2);
    }

    @HelperPromise(value = 20, says = "NONE without that MEMBER, for k below NONE.")
    static void bodyWithoutTheMember() {
        TraitLines x = told("trait T:a=1 b?;type A uses T:c=1 d?");
        for (int k : new int[] {-2, -3, -32, LEAST}) {
            due("of a body, k " + k, x.body(1, 2, k), -1);
            due("of what is required, k " + k, x.body(1, 3, k), -1);
        }
        for (int no : noUnits(2)) {
            due("unit " + no, x.body(no, 2, -1), -1);
            due("unit " + no, x.body(no, 2, 0), -1);
        }
        for (int no : NO_LETTERS) {
            due("letter " + no, x.body(1, no, -1), -1);
            due("letter " + no, x.body(1, no, 0), -1);
        }
        for (int k : new int[] {-1, 0, 1, MOST}) {
            due("given by a trait alone, k " + k, x.body(1, 0, k), -1);
            due("required by a trait alone, k " + k, x.body(1, 1, k), -1);
            due("nowhere, k " + k, x.body(1, 25, k), -1);
            due("in no world, k " + k, new TraitLines().body(0, 0, k), -1);
        }
        due("take", x.take(1, 2), 1);
        due("no more", x.body(1, 2, 0), -1);
    }

    // ---- flat

    @HelperPromise(value = 21, says = "what 0: 1 a BODY, 2 REQUIRED, 3 a CONFLICT, 1: the UNIT that tells it, 2: under which letter (of a CONFLICT the first one)")
    static void whatIsFlat() {
        TraitLines x = told("trait A:a=1;trait Z:z=1 y=2;type B uses A(a>z)Z:c? d=1");
        flatIs(x, 0, 'a', 1, 0, 0, -2, -2);
        flatIs(x, 2, 'y', 1, 1, 24, -2, -2);
        flatIs(x, 2, 'd', 1, 2, 3, -2, -2);
        flatIs(x, 2, 'z', 3, 0, 0, 1, 25);
        flatIs(x, 2, 'c', 2, -2, -2, -2, -2);
    }

    @HelperPromise(value = 21, says = "3, 4: likewise the other one of a CONFLICT")
    static void theOtherOne() {
        TraitLines x = told("trait A:a=1 z=3;trait Z:z=1;type B uses Z(z>a)A;type C uses A(a>z)");
        flatIs(x, 2, 'a', 3, 1, 25, 0, 0);
        flatIs(x, 3, 'z', 3, 0, 0, 0, 25);
        // in the last of twelve units
        x = told("trait A;trait B;trait C;trait D;trait E;trait F;trait G;trait H;trait I;trait J:z=1;trait K:z=1;type L uses K J");
        flatIs(x, 11, 'z', 3, 10, 25, 9, 25);
    }

    @HelperPromise(value = 21, says = "-2: it is no BODY, no CONFLICT (1, 2), no CONFLICT (3, 4)")
    static void noBodyNoConflict() {
        TraitLines x = told("trait S:a=1 b?;trait T:a=1;type A uses S T;type B uses S:c=1 d?");
        for (int what = 1; what <= 4; what++) {
            due("required, what " + what, x.flat(2, 1, what), -2);
            due("required by itself, what " + what, x.flat(3, 3, what), -2);
        }
        for (int what = 3; what <= 4; what++) {
            due("a body, what " + what, x.flat(3, 0, what), -2);
            due("its own body, what " + what, x.flat(3, 2, what), -2);
        }
        due("give: no conflict more", x.give(2, 0, 5), 0);
        flatIs(x, 2, 'a', 1, 2, 0, -2, -2);
        due("need: a conflict again", x.need(2, 0), 1);
        flatIs(x, 2, 'a', 3, 0, 0, 1, 0);
    }

    @HelperPromise(value = 21, says = "NONE without these.")
    static void flatWithoutThese() {
        TraitLines x = told("trait S:a=1 b?;trait T:a=1;type A uses S T");
        for (int no : noUnits(3)) {
            due("unit " + no, x.flat(no, 0, 0), -1);
        }
        for (int no : NO_LETTERS) {
            due("letter " + no, x.flat(2, no, 0), -1);
        }
        for (int no : new int[] {-1, 5, 6, 32, LEAST, MOST, -2}) {
            due("of a conflict, what " + no, x.flat(2, 0, no), -1);
            due("of a body, what " + no, x.flat(0, 0, no), -1);
            due("of what is required, what " + no, x.flat(0, 1, no), -1);
        }
        nothingFlat(x, 2, 'c');
        nothingFlat(x, 1, 'b');
        due("in no world", new TraitLines().flat(0, 0, 0), -1);
    }
}
