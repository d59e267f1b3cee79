/** Boundary cases of promises 35 and 36, sentence by sentence: find and count. */
public final class EdgeCountTest extends HelperCheck {
    private static final String FULL_OF_TRAITS = "trait A;trait B;trait C;trait D;trait E;trait F;trait G;trait H;trait I;trait J;trait K;trait L";

    public static void main(String[] args) throws Exception {
        HelperEdges.run(EdgeCountTest.class, 35, 36);
    }

    @HelperPromise(value = 35, says = "The UNIT of a NAME (A to Z as 0 to 25)")
    static void findAToZ() {
        TraitLines x = told("type Z;trait A;type M");
        due("A", x.find(0), 1);
        due("M", x.find(12), 2);
        due("Z", x.find(25), 0);
        x = told(LADDER);
        for (int name = 0; name < 12; name++) {
            due("find(" + name + ")", x.find(name), name);
        }
        x = told("type Z;type Y;type X;type W;type V;type U;type T;type S;type R;type Q;type P;trait O");
        for (int name = 14; name < 26; name++) {
            due("find(" + name + ")", x.find(name), 25 - name);
        }
    }

    @HelperPromise(value = 35, says = "(A to Z as 0 to 25); NONE.")
    static void findNone() {
        TraitLines x = told("type Z;trait A;type M");
        for (int no : new int[] {1, 11, 13, 24, -1, 26, 27, 32, 65, 90, LEAST, MOST}) {
            due("find(" + no + ")", x.find(no), -1);
            due("find(" + no + ") in no world", new TraitLines().find(no), -1);
        }
        due("tell", tellText(x, "type B"), 1);
        due("A is no more", x.find(0), -1);
        due("Z is no more", x.find(25), -1);
        due("a fault", tellText(x, "type Z;x") < -2 ? 1 : 0, 1);
        due("Z of a text that has a fault", x.find(25), -1);
        due("back of nothing", x.back(0), -2);
        due("keep", x.keep(0), 1);
        due("tell", tellText(x, "type A;type Z"), 2);
        due("back", x.back(0), 1);
        due("Z is no more", x.find(25), -1);
        due("B", x.find(1), 0);
    }

    @HelperPromise(value = 36, says = "What 0: UNITS, 1: TYPES, 2: TRAITS")
    static void howManyUnits() {
        int[][] due = {{0, 0, 0}, {12, 12, 0}, {12, 0, 12}, {3, 2, 1}};
        TraitLines[] worlds = {new TraitLines(), told(LADDER), told(FULL_OF_TRAITS), told("type A;trait B;type C")};
        for (int n = 0; n < 4; n++) {
            for (int what = 0; what < 3; what++) {
                due("world " + n + ", count(" + what + ")", worlds[n].count(what), due[n][what]);
            }
        }
    }

    @HelperPromise(value = 36, says = "3: TYPES without a LINE (bits)")
    static void withoutALine() {
        due("in no world", new TraitLines().count(3), 0);
        due("traits are none", told(FULL_OF_TRAITS).count(3), 0);
        TraitLines x = told("trait T;type A;type B of A;type C of A B;type D of C;type E of D;type F of B");
        due("where merging stops, and all under it", x.count(3), bits(3, 4, 5));
        due("turn", x.turn(3), 2);
        due("none more", x.count(3), 0);
        due("undo", x.undo(), 0);
        due("again", x.count(3), bits(3, 4, 5));
        x = told("type A;type B;type C;type D;type E;type F;type G;type H;type I;type J;type K of J;type L of J K");
        due("the last of twelve", x.count(3), bits(11));
    }

    @HelperPromise(value = 36, says = "4: those that LACK nothing and have no CONFLICT in their LINE (bits)")
    static void wholeTypes() {
        due("in no world", new TraitLines().count(4), 0);
        due("traits are none", told(FULL_OF_TRAITS).count(4), 0);
        due("types with nothing", told(LADDER).count(4), 4095);
        TraitLines x = told("trait S:a=1;trait T:a=2;type A:n?;type B of A:n=1;type C of B:m?;type D uses S T;type E of D:a=1;type F uses S(-a)T;type G of E F");
        due("lacking, and in conflict above", x.count(4), bits(3, 7));
        due("change: the conflict goes", x.change(5, 1, 0, -1), 1);
        due("so all under it are whole", x.count(4), bits(3, 5, 6, 7, 8));
        due("give", x.give(2, 13, 0), 1);
        due("A lacks nothing, C does", x.count(4), bits(2, 3, 5, 6, 7, 8));
        x = told("type A;type B of A;type C of A B");
        due("those without a line are none of them", x.count(4), bits(0, 1));
    }

    @HelperPromise(value = 36, says = "5: the longest LINE")
    static void longestLine() {
        due("in no world", new TraitLines().count(5), 0);
        due("of traits", told(FULL_OF_TRAITS).count(5), 0);
        due("of one type", told("type A").count(5), 1);
        due("of one type behind a trait", told("trait T;type A").count(5), 1);
        TraitLines x = told(LADDER);
        due("twelve", x.count(5), 12);
        due("leave", x.leave(6, 5), 0);
        due("six and six", x.count(5), 6);
        due("leave", x.leave(11, 10), 0);
        due("the first six", x.count(5), 6);
        due("a line that is none counts for nothing", told("type A;type B of A;type C of A B").count(5), 2);
        // told in place of a longer one
        due("tell", tellText(x, "trait T"), 1);
        due("none", x.count(5), 0);
    }

    @HelperPromise(value = 36, says = "6: CONFLICTS of all UNITS")
    static void conflictsOfAll() {
        due("in no world", new TraitLines().count(6), 0);
        due("none in twelve types", told(LADDER).count(6), 0);
        due("none in twelve traits", told(FULL_OF_TRAITS).count(6), 0);
        due("none", told("trait S:a=1;trait T:b=1;type A uses S T").count(6), 0);
        TraitLines x = told("trait S:a=1 z=1;trait T:a=2 z=2;trait U uses S T;type A uses U;type B uses S T:a=1;type C uses S T(-z):b=1;type D of A");
        due("of traits and of types, by letters", x.count(6), 6);
        due("give", x.give(2, 0, 9), 0);
        due("the conflict of U goes, and that of A", x.count(6), 4);
        due("undo", x.undo(), 0);
        due("again", x.count(6), 6);
    }

    @HelperPromise(value = 36, says = "7: ACTS that can be UNDONE, 8: bytes of the TAPE")
    static void actsAndBytes() {
        TraitLines x = told("type A");
        due("no acts", x.count(7), 0);
        for (int n = 1; n <= 12; n++) {
            due("give", x.give(0, 0, n), n == 1 ? 0 : 1);
            due("acts", x.count(7), Math.min(n, 10));
        }
        due("undo", x.undo(), 9);
        due("acts", x.count(7), 9);
        due("no bytes", x.count(8), 0);
        for (int n = 20; n <= 400; n += 20) {
            due("feed", x.feed(0, 0, 0, 0, 0), n);
            due("bytes", x.count(8), n);
        }
        due("feed", x.feed(0, 0, 0, 0, 0), -1);
        due("bytes", x.count(8), 400);
        due("end", x.end(399), 399);
        due("bytes", x.count(8), 399);
        due("a fault", x.tell(), -3);
        due("no bytes", x.count(8), 0);
    }

    @HelperPromise(value = 36, says = "9: SHELVES on which something is KEPT, as bits")
    static void shelves() {
        TraitLines x = new TraitLines();
        due("none", x.count(9), 0);
        due("keep(1)", x.keep(1), 0);
        due("the one, though no unit is kept", x.count(9), 2);
        due("keep(2)", x.keep(2), -1);
        due("the one", x.count(9), 2);
        due("keep(0)", x.keep(0), 0);
        due("both", x.count(9), 3);
        due("back(0)", x.back(0), 0);
        due("both still", x.count(9), 3);
        due("tell", tellText(x, "type A"), 1);
        due("both still", x.count(9), 3);
        TraitLines y = new TraitLines();
        due("keep(0)", y.keep(0), 0);
        due("the other one", y.count(9), 1);
    }

    @HelperPromise(value = 36, says = "10: TYPES under which none stands (bits)")
    static void lowestTypes() {
        due("in no world", new TraitLines().count(10), 0);
        due("traits are none", told(FULL_OF_TRAITS).count(10), 0);
        due("the last alone", told(LADDER).count(10), 1 << 11);
        due("the only one", told("type A").count(10), bits(0));
        due("a type that nothing is of", told("trait T;type A;type B uses T").count(10), bits(1, 2));
        TraitLines x = told("type A;type B of A;type C of A;type D of B C;type E");
        due("D and E", x.count(10), bits(3, 4));
        due("join", x.join(4, 0), 1);
        due("D and E still", x.count(10), bits(3, 4));
        due("leave", x.leave(3, 1), 1);
        due("B, too", x.count(10), bits(1, 3, 4));
        // a type without a line stands under its parents all the same
        due("without a line", told("type A;type B of A;type C of A B").count(10), bits(2));
    }

    @HelperPromise(value = 36, says = "NONE for others.")
    static void countOfOthers() {
        TraitLines x = told("type A");
        for (int no : new int[] {-1, 11, 12, 32, 43, LEAST, MOST, -2}) {
            due("count(" + no + ")", x.count(no), -1);
            due("count(" + no + ") in no world", new TraitLines().count(no), -1);
        }
    }
}
