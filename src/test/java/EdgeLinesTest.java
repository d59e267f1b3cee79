/** Boundary cases of LINES, RINGS and ORDERS and of promises 22 to 27, sentence by sentence. */
public final class EdgeLinesTest extends HelperCheck {
    /** Where there is a line of each kind: of itself alone, of more, none by a ring, none by a parent; and a trait. */
    private static final String KINDS = "trait T;type A;type B;type X of A B;type Y of B A;type Z of X Y;type W of Z";
    /** Of all worlds of twelve that are trees this one has the most orders: 11! by 11 7 3 3 3. */
    private static final String MOST_ORDERS = "type A;type B;type C;type D of A;type E;type F of D E;type G of B;type H;type I of F G H;type J of C;"
        + "type K;type L of I J K";

    public static void main(String[] args) throws Exception {
        HelperEdges.run(EdgeLinesTest.class, 22, 27);
    }

    private static void firstIs(TraitLines x, int type, int... due) {
        for (int k = 0; k < due.length; k++) {
            due("first(" + type + ", " + k + ")", x.first(type, k), due[k]);
        }
        due("first(" + type + ") beyond", x.first(type, due.length), -1);
    }

    // ---- the terms

    @HelperPromise(value = 0, says = "The LINE of a TYPE: itself, then what MERGING makes of these rows: "
        + "the LINES of its PARENTS in their order, the row of its PARENTS.")
    static void rowsToMerge() {
        TraitLines x = told("type A;type B;type C of B A;type D of C B;type E;type F of E C;type G of E");
        lineIs(x, 0, 0);
        lineIs(x, 2, 2, 1, 0);
        lineIs(x, 3, 3, 2, 1, 0);
        lineIs(x, 5, 5, 4, 2, 1, 0);
        lineIs(x, 6, 6, 4);
        due("turn", x.turn(5), 2);
        lineIs(x, 5, 5, 2, 1, 0, 4);
        // the row of the parents holds them apart, though no line of theirs does
        x = told("type A;type B of A;type C of A B;type D of B A");
        lineIs(x, 2);
        lineIs(x, 3, 3, 1, 0);
    }

    @HelperPromise(value = 0, says = "of the rows that are left the first whose head stands in no row's tail (all but its head)")
    static void theFirstHeadInNoTail() {
        // O is the head of the second row, but stands in the tail of the first
        TraitLines x = told("type O;type A of O;type B of O;type C of A B;type D of O;type E of A D O");
        lineIs(x, 3, 3, 1, 2, 0);
        lineIs(x, 5, 5, 1, 4, 0);
        // both heads are free: that of the first row comes
        x = told("type A;type B;type C of A;type D of B;type E of C D;type F of D C");
        lineIs(x, 4, 4, 2, 0, 3, 1);
        lineIs(x, 5, 5, 3, 1, 2, 0);
    }

    @HelperPromise(value = 0, says = "that head comes next, and goes from all rows; till none are left")
    static void goesFromAllRows() {
        TraitLines x = told("type O;type A of O;type B of O;type C of O;type D of O;type E of A B C D");
        lineIs(x, 5, 5, 1, 2, 3, 4, 0);
        x = told(LADDER);
        due("join", x.join(11, 8), 2);
        due("join", x.join(11, 4), 3);
        due("join", x.join(11, 0), 4);
        lineIs(x, 11, 11, 10, 9, 8, 7, 6, 5, 4, 3, 2, 1, 0);
    }

    @HelperPromise(value = 0, says = "If there is no such row, or a PARENT has no LINE, the TYPE has none.")
    static void noLine() {
        TraitLines x = told(KINDS + ";type V of W A;type U of A W");
        lineIs(x, 5);
        lineIs(x, 6);
        lineIs(x, 7);
        lineIs(x, 8);
        due("without a line", x.count(3), bits(5, 6, 7, 8));
        due("turn", x.turn(4), 2);
        lineIs(x, 5, 5, 3, 4, 1, 2);
        lineIs(x, 6, 6, 5, 3, 4, 1, 2);
        lineIs(x, 7, 7, 6, 5, 3, 4, 1, 2);
        lineIs(x, 8);
        ringIs(x, 8, 1, 6);
    }

    @HelperPromise(value = 0, says = "from the head of the first row that is left on, to the head of the first row in whose tail it stands")
    static void fromHeadToHead() {
        // rows left: A B | B A | A B
        TraitLines x = told("type A;type B;type X of A B;type Y of B A;type Z of X Y");
        ringIs(x, 4, 0, 1);
        due("turn", x.turn(4), 2);
        ringIs(x, 4, 1, 0);
        // A stands in the tails of B A and of C A: the first of them counts; B in that of C B
        x = told("type A;type B;type C;type P of A C;type Q of B A;type R of C A;type S of C B;type Z of P Q R S");
        ringIs(x, 7, 0, 1, 2);
        x = told("type A;type B;type C;type P of A C;type Q of B A;type R of C A;type S of C B;type Z of P R Q S");
        ringIs(x, 7, 0, 2);
    }

    @HelperPromise(value = 0, says = "RING (where MERGING stops): from the head of the first row that is left on")
    static void firstRowThatIsLeft() {
        // the row of P is used up: A B | B A are left
        TraitLines x = told("type P;type A;type B;type X of A B;type Y of B A;type Z of P X Y");
        ringIs(x, 5, 1, 2);
        // the rows of P and of X are used up
        x = told("type P;type X;type A;type B;type V of A B;type W of B A;type Z of P X W V");
        ringIs(x, 6, 3, 2);
    }

    @HelperPromise(value = 0, says = "till one comes that was there: the RING is from that one on")
    static void ringFromThatOneOn() {
        // rows left: A | B A | C D B | D C: from A to B, C, D, then C again
        TraitLines x = told("type A;type B;type C;type D;type P of A;type Q of B A;type R of C D B;type S of D C;type Z of P Q R S");
        ringIs(x, 8, 2, 3);
        // rows left: A | B A | B C | C B: from A to B, C, then B again
        x = told("type A;type B;type C;type P of A;type Q of B A;type R of B C;type S of C B;type Z of P Q R S");
        ringIs(x, 7, 1, 2);
        due("no line", x.line(7, -1), 0);
    }

    @HelperPromise(value = 0, says = "Over a TYPE stand it, its PARENTS, theirs, and so on.")
    static void whatStandsOver() {
        TraitLines x = told(LADDER);
        for (int type = 0; type < 12; type++) {
            due("over(" + type + ")", x.over(type), (2 << type) - 1);
        }
        due("leave", x.leave(5, 4), 0);
        due("cut off", x.over(11), 4095 & ~31);
    }

    @HelperPromise(value = 0, says = "rows of all that stand over it in which each of these stands ahead of its PARENTS, and these in their order")
    static void whatOrdersKeep() {
        // those of a type that does not stand over it do not bind
        TraitLines x = told("type A;type B;type C;type Y of C B A;type P of A;type Q of B;type Z of P Q");
        due("C and Y do not stand over Z", x.over(6), bits(0, 1, 4, 5, 6));
        due("A behind P, B behind Q, P ahead of Q", x.orders(6), 3);
        firstIs(x, 6, 6, 4, 0, 5, 1);
        due("one row", x.orders(3), 1);
        firstIs(x, 3, 3, 2, 1, 0);
        // the order of a parent's parents binds, too
        x = told("type A;type B;type C of B A;type D of C A");
        due("orders", x.orders(3), 1);
        firstIs(x, 3, 3, 2, 1, 0);
    }

    // ---- line

    @HelperPromise(value = 22, says = "The k-th TYPE of the LINE of a TYPE (0 the first, itself)")
    static void placesOfLines() {
        TraitLines x = told(LADDER);
        for (int type = 0; type < 12; type++) {
            due("itself", x.line(type, 0), type);
            due("the last", x.line(type, type), 0);
        }
    }

    @HelperPromise(value = 22, says = "k NONE: how many (0: it has none)")
    static void howLong() {
        TraitLines x = told(KINDS);
        due("itself alone", x.line(1, -1), 1);
        due("three", x.line(3, -1), 3);
        due("none by a ring", x.line(5, -1), 0);
        due("none by a parent", x.line(6, -1), 0);
        due("twelve", told(LADDER).line(11, -1), 12);
    }

    @HelperPromise(value = 22, says = "-2: there are not so many")
    static void lineIsNotSoLong() {
        TraitLines x = told(KINDS);
        for (int k : new int[] {0, 1, 2, 3, 12, 13, 32, MOST}) {
            due("of three, k " + k, x.line(3, k), k == 0 ? 3 : k < 3 ? k : -2);
            due("of none, k " + k, x.line(5, k), -2);
            due("of none, k " + k, x.line(6, k), -2);
        }
        x = told(LADDER);
        due("the 13th of twelve", x.line(11, 12), -2);
        due("far beyond", x.line(11, MOST), -2);
    }

    @HelperPromise(value = 22, says = "NONE without that TYPE, for k below NONE.")
    static void lineWithoutTheType() {
        TraitLines x = told(KINDS);
        for (int no : noUnits(7)) {
            due("type " + no, x.line(no, -1), -1);
            due("type " + no, x.line(no, 0), -1);
        }
        due("a trait", x.line(0, -1), -1);
        due("a trait", x.line(0, 0), -1);
        for (int k : new int[] {-2, -3, -32, LEAST}) {
            due("k " + k, x.line(3, k), -1);
            due("of none, k " + k, x.line(5, k), -1);
        }
        due("in no world", new TraitLines().line(0, 0), -1);
        due("in no world", new TraitLines().line(0, -1), -1);
    }

    // ---- ring

    @HelperPromise(value = 23, says = "The k-th TYPE of the RING of a TYPE that has no LINE")
    static void placesOfRings() {
        TraitLines x = told(KINDS);
        due("the first", x.ring(5, 0), 1);
        due("the second", x.ring(5, 1), 2);
        // the two of a ladder that are far apart
        x = told(LADDER);
        due("join", x.join(10, 0), 2);
        due("turn", x.turn(10), 2);
        ringIs(x, 10, 0, 9);
        ringIs(x, 11);
    }

    @HelperPromise(value = 23, says = "k NONE: how many (0: it has a LINE, or one of its PARENTS has none)")
    static void howManyInTheRing() {
        TraitLines x = told(KINDS);
        due("it has a line", x.ring(1, -1), 0);
        due("it has a line", x.ring(3, -1), 0);
        due("two", x.ring(5, -1), 2);
        due("its parent has none", x.ring(6, -1), 0);
        due("turn", x.turn(4), 2);
        due("it has a line now", x.ring(5, -1), 0);
        // the longest one that four parents can make: each says of the next that it stands behind
        x = told("type A;type B;type C;type D;type P of A B;type Q of B C;type R of C D;type S of D A;type Z of P Q R S");
        ringIs(x, 8, 0, 3, 2, 1);
    }

    @HelperPromise(value = 23, says = "-2: there are not so many")
    static void ringIsNotSoLong() {
        TraitLines x = told(KINDS);
        for (int k : new int[] {2, 3, 12, 32, MOST}) {
            due("of two, k " + k, x.ring(5, k), -2);
        }
        for (int k : new int[] {0, 1, 12, MOST}) {
            due("of a type with a line, k " + k, x.ring(3, k), -2);
            due("of one whose parent has none, k " + k, x.ring(6, k), -2);
        }
    }

    @HelperPromise(value = 23, says = "NONE without that TYPE, for k below NONE.")
    static void ringWithoutTheType() {
        TraitLines x = told(KINDS);
        for (int no : noUnits(7)) {
            due("type " + no, x.ring(no, -1), -1);
            due("type " + no, x.ring(no, 0), -1);
        }
        due("a trait", x.ring(0, -1), -1);
        due("a trait", x.ring(0, 0), -1);
        for (int k : new int[] {-2, -3, -32, LEAST}) {
            due("k " + k, x.ring(5, k), -1);
            due("of a type with a line, k " + k, x.ring(3, k), -1);
        }
        due("in no world", new TraitLines().ring(0, -1), -1);
    }

    // ---- over

    @HelperPromise(value = 24, says = "TYPES that stand over a TYPE (itself, too), as bits")
    static void itselfToo() {
        TraitLines x = told(KINDS);
        due("itself alone", x.over(1), bits(1));
        due("without a line", x.over(5), bits(1, 2, 3, 4, 5));
        due("under one without a line", x.over(6), bits(1, 2, 3, 4, 5, 6));
        due("all of twelve", told(LADDER).over(11), 4095);
        x = told("trait S;trait T;type A uses S T");
        due("traits are none", x.over(2), bits(2));
    }

    @HelperPromise(value = 24, says = "NONE without it.")
    static void overWithoutIt() {
        TraitLines x = told(KINDS);
        for (int no : noUnits(7)) {
            due("over(" + no + ")", x.over(no), -1);
        }
        due("a trait", x.over(0), -1);
        due("in no world", new TraitLines().over(0), -1);
    }

    // ---- orders

    @HelperPromise(value = 25, says = "How many ORDERS of all that stand over a TYPE there are")
    static void howManyOrders() {
        TraitLines x = told(KINDS);
        due("itself alone", x.orders(1), 1);
        due("one", x.orders(3), 1);
        due("none", x.orders(5), 0);
        due("none under it", x.orders(6), 0);
        due("one of twelve", told(LADDER).orders(11), 1);
        due("the most", told(MOST_ORDERS).orders(11), 19200);
        // a type without a line may have orders: merging keeps the lines of the parents, too
        x = told("type A;type B;type X of A;type Y of B;type P of X Y;type V of B A;type Z of P V");
        due("no line", x.line(6, -1), 0);
        // Z P ahead of V; X ahead of Y; X ahead of A; Y, V ahead of B; B ahead of A
        due("orders", x.orders(6), 3);
    }

    @HelperPromise(value = 25, says = "NONE without it.")
    static void ordersWithoutIt() {
        TraitLines x = told(KINDS);
        for (int no : noUnits(7)) {
            due("orders(" + no + ")", x.orders(no), -1);
        }
        due("a trait", x.orders(0), -1);
        due("in no world", new TraitLines().orders(0), -1);
    }

    // ---- first

    @HelperPromise(value = 26, says = "The k-th TYPE of the first of these by numbers")
    static void firstByNumbers() {
        TraitLines x = told(MOST_ORDERS);
        // ahead of all L, then I; of what may come the least each time
        firstIs(x, 11, 11, 8, 5, 3, 0, 4, 6, 1, 7, 9, 2, 10);
        firstIs(x, 3, 3, 0);
        firstIs(x, 0, 0);
        x = told("type A;type B;type C of B;type D of A;type E of C D");
        firstIs(x, 4, 4, 2, 1, 3, 0);
        due("turn", x.turn(4), 2);
        firstIs(x, 4, 4, 3, 0, 2, 1);
        firstIs(told(LADDER), 11, 11, 10, 9, 8, 7, 6, 5, 4, 3, 2, 1, 0);
    }

    @HelperPromise(value = 26, says = "NONE without these.")
    static void firstWithoutThese() {
        TraitLines x = told(KINDS);
        for (int no : noUnits(7)) {
            due("type " + no, x.first(no, 0), -1);
        }
        due("a trait", x.first(0, 0), -1);
        for (int no : noPlaces(3)) {
            due("place " + no, x.first(3, no), -1);
        }
        for (int k = -1; k < 6; k++) {
            due("there are no orders, place " + k, x.first(5, k), -1);
            due("there are no orders, place " + k, x.first(6, k), -1);
        }
        due("in no world", new TraitLines().first(0, 0), -1);
    }

    // ---- place

    @HelperPromise(value = 27, says = "At which places a TYPE other can stand in these ORDERS of a TYPE, as bits (0 the first)")
    static void placesInOrders() {
        TraitLines x = told(MOST_ORDERS);
        due("itself is the first", x.place(11, 11), bits(0));
        due("I is the second", x.place(11, 8), bits(1));
        due("J from the third on: C and K stand behind it", x.place(11, 9), bits(2, 3, 4, 5, 6, 7, 8, 9));
        due("K behind J", x.place(11, 10), bits(3, 4, 5, 6, 7, 8, 9, 10, 11));
        due("A behind L I F D", x.place(11, 0), bits(4, 5, 6, 7, 8, 9, 10, 11));
        x = told(LADDER);
        for (int other = 0; other < 12; other++) {
            due("place(11, " + other + ")", x.place(11, other), 1 << 11 - other);
        }
        due("alone", x.place(0, 0), 1);
        // B ahead of A by P, A ahead of C by Q: so B ahead of C
        x = told("type A;type B;type C;type P of B A;type Q of A C;type Z of P Q");
        int[] due = {bits(4), bits(2, 3), bits(5), bits(1), bits(2, 3), bits(0)};
        for (int other = 0; other < 6; other++) {
            due("place(5, " + other + ")", x.place(5, other), due[other]);
        }
    }

    @HelperPromise(value = 27, says = "0: there are none")
    static void placesWithoutOrders() {
        TraitLines x = told(KINDS);
        for (int other = 1; other <= 5; other++) {
            due("place(5, " + other + ")", x.place(5, other), 0);
        }
        due("under it", x.place(6, 6), 0);
        due("of one over it", x.place(3, 1), bits(1));
    }

    @HelperPromise(value = 27, says = "NONE without these, if it does not stand over it.")
    static void placeWithoutThese() {
        TraitLines x = told(KINDS);
        for (int no : noUnits(7)) {
            due("type " + no, x.place(no, 1), -1);
            due("other " + no, x.place(3, no), -1);
            due("other " + no + ", no orders", x.place(5, no), -1);
        }
        due("a trait", x.place(0, 0), -1);
        due("a trait", x.place(3, 0), -1);
        due("it stands under it", x.place(1, 3), -1);
        due("beside it", x.place(3, 4), -1);
        due("under it, no orders", x.place(5, 6), -1);
        due("in no world", new TraitLines().place(0, 0), -1);
    }
}
