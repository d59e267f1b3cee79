/** Boundary cases of promises 1 to 4, sentence by sentence: a new object, feed, end, tell. */
public final class EdgeTapeTest extends HelperCheck {
    private static final int BLANKS = 0x20202020;
    private static final int TYPE = 0x74797065;

    public static void main(String[] args) throws Exception {
        HelperEdges.run(EdgeTapeTest.class, 1, 4);
    }

    private static int feedBlanks(TraitLines x) {
        return x.feed(BLANKS, BLANKS, BLANKS, BLANKS, BLANKS);
    }

    private static TraitLines withBlanks(int feeds) {
        TraitLines x = new TraitLines();
        for (int n = 1; n <= feeds; n++) {
            due("feed", feedBlanks(x), 20 * n);
        }
        return x;
    }

    @HelperPromise(value = 1, says = "Nothing.")
    static void aNewObject() {
        TraitLines x = new TraitLines();
        for (int what = 0; what <= 10; what++) {
            due("count(" + what + ")", x.count(what), 0);
        }
        due("undo", x.undo(), -1);
        due("back(0)", x.back(0), -2);
        due("back(1)", x.back(1), -2);
        due("end(1)", x.end(1), -1);
        due("unit(0, 0)", x.unit(0, 0), -1);
        due("the first feed", feedBlanks(x), 20);
        due("tell", x.tell(), 0);
    }

    @HelperPromise(value = 1, says = "`TraitLines()`")
    static void objectsAreApart() {
        TraitLines x = told("type A");
        TraitLines y = new TraitLines();
        due("feed", feedBlanks(x), 20);
        due("keep", x.keep(0), 1);
        due("the other's units", y.count(0), 0);
        due("the other's tape", y.count(8), 0);
        due("the other's shelf", y.back(0), -2);
    }

    @HelperPromise(value = 2, says = "Twenty bytes come behind the TAPE, of each number the highest first: how many it has")
    static void bytesOfNumbers() {
        TraitLines x = new TraitLines();
        // "type A:a=1+b  b=super" in two feeds, and a byte of each number that has its highest bit set
        due("the first", x.feed(TYPE, 0x20413A61, 0x3D312B62, 0x2020623D, 0x73757065), 20);
        due("behind it", x.feed(0x72202020, BLANKS, BLANKS, BLANKS, 0x20202020), 40);
        due("bytes", x.count(8), 40);
        due("tell", x.tell(), 1);
        due("super", x.body(0, 1, 0), 1000);
        due("b", x.body(0, 0, 1), 1002);
        for (int place = 0; place < 20; place++) {
            int[] n = {BLANKS, BLANKS, BLANKS, BLANKS, BLANKS};
            n[place / 4] |= 0xFF << 24 - 8 * (place % 4);
            due("a byte 255", x.feed(n[0], n[1], n[2], n[3], n[4]), 20);
            due("its place", x.tell(), -2 - (8 * place + 1));
        }
    }

    @HelperPromise(value = 2, says = "NONE, and none comes, if it would have more than 400")
    static void aFullTape() {
        TraitLines x = withBlanks(19);
        due("380", x.count(8), 380);
        due("400 are not more", x.feed(TYPE, 0x20412020, BLANKS, BLANKS, BLANKS), 400);
        due("420", x.feed(-1, -1, -1, -1, -1), -1);
        due("none comes", x.count(8), 400);
        due("nor is one put over another", x.tell(), 1);
        for (int n = 381; n < 400; n++) {
            x = withBlanks(20);
            due("end", x.end(n), n);
            due("feed behind " + n, x.feed(-1, -1, -1, -1, -1), -1);
            due("none comes", x.count(8), n);
            due("tell", x.tell(), 0);
        }
        due("the tape that was told has room", feedBlanks(x), 20);
    }

    @HelperPromise(value = 3, says = "The TAPE has its first n bytes alone: n")
    static void firstBytesAlone() {
        TraitLines x = new TraitLines();
        due("end(0) of none", x.end(0), 0);
        due("feed", x.feed(TYPE, 0x20413B74, 0x79706520, 0x42202020, -1), 20);
        due("all of them", x.end(20), 20);
        due("all but one", x.end(19), 19);
        due("bytes", x.count(8), 19);
        due("the first 13", x.end(13), 13);
        due("feed behind them", x.feed(0x3A613F20, BLANKS, BLANKS, BLANKS, BLANKS), 33);
        due("tell", x.tell(), 2);
        due("what came behind", x.unit(1, 5), 1);
        due("feed", x.feed(-1, -1, -1, -1, -1), 20);
        due("end(0)", x.end(0), 0);
        due("bytes", x.count(8), 0);
        due("tell of none", x.tell(), 0);
        x = withBlanks(20);
        due("end(400)", x.end(400), 400);
        due("end(1)", x.end(1), 1);
        due("room again", feedBlanks(x), 21);
    }

    @HelperPromise(value = 3, says = "NONE, and nothing happens, if it has not so many, or n is below 0")
    static void notSoManyBytes() {
        TraitLines x = new TraitLines();
        due("end(1) of none", x.end(1), -1);
        due("feed", x.feed(TYPE, 0x20412020, BLANKS, BLANKS, BLANKS), 20);
        for (int n : new int[] {21, 22, 40, 400, 401, MOST, -1, -2, -20, LEAST}) {
            due("end(" + n + ")", x.end(n), -1);
            due("bytes", x.count(8), 20);
        }
        due("the same text", x.tell(), 1);
        x = withBlanks(20);
        due("end(401)", x.end(401), -1);
        due("end(400)", x.end(400), 400);
        due("end(10)", x.end(10), 10);
        due("end(11): they are gone", x.end(11), -1);
    }

    @HelperPromise(value = 4, says = "The TAPE, which is empty then, tells a WORLD in place of the one there was")
    static void inPlaceOfTheOldWorld() {
        TraitLines x = told("trait T:a=1;type A uses T(a>b -c):c=super+1 d?;type B of A:z=1");
        due("bytes", x.count(8), 0);
        due("end(1)", x.end(1), -1);
        due("tell", tellText(x, "trait B;type A uses B"), 2);
        due("bytes", x.count(8), 0);
        due("units", x.count(0), 2);
        due("T is gone", x.find(19), -1);
        due("B", x.find(1), 0);
        due("no own members", x.unit(0, 4), 0);
        due("no flat members", x.unit(1, 6), 0);
        due("no changes", x.becomes(1, 0, 0), 0);
        due("no changes", x.becomes(1, 0, 2), 2);
        due("no parents", x.unit(1, 2), 0);
        due("of an empty tape", x.tell(), 0);
        due("nothing is there", x.count(0), 0);
        due("nothing is there", x.find(1), -1);
        due("nothing is there", x.unit(0, 0), -1);
    }

    @HelperPromise(value = 4, says = "tells a WORLD in place of the one there was")
    static void nothingOfOlderWorlds() {
        TraitLines x = new TraitLines();
        String rich = "trait S;trait T;type A;type B;type C of A B uses S(-a b>c -d -e -f -g)T(-a):a=1+2b=1c?d?e?f?g?h?";
        due("tell", tellText(x, rich), 5);
        due("tell", tellText(x, rich), 5);
        due("tell", tellText(x, "trait S;trait T;type A;type B;type C uses S T"), 5);
        due("no parents", x.unit(4, 2), 0);
        due("two traits", x.unit(4, 3), 2);
        due("no own members", x.unit(4, 4), 0);
        for (int member = 0; member < 26; member++) {
            due("no change in S", x.becomes(4, 0, member), member);
            due("no change in T", x.becomes(4, 1, member), member);
        }
        due("a first change", x.change(4, 0, 25, -1), 1);
        due("a first change", x.change(4, 1, 25, -1), 1);
        due("a first parent", x.join(4, 3), 1);
        for (int member = 0; member < 8; member++) {
            due("room for eight", x.give(4, member, 7), 0);
        }
        due("a 9th", x.give(4, 8, 7), -3);
        due("take", x.take(4, 0), 7);
    }

    @HelperPromise(value = 4, says = "(nothing can be UNDONE; SHELVES stay)")
    static void nothingToUndoShelvesStay() {
        TraitLines x = told("type A:a=1");
        due("keep", x.keep(1), 1);
        due("give", x.give(0, 0, 2), 1);
        due("tell", tellText(x, "type B:a=7;type C"), 2);
        due("acts", x.count(7), 0);
        due("undo", x.undo(), -1);
        due("the new world stays", x.send(0, 0, 1), 7);
        due("shelves", x.count(9), 2);
        due("back(0)", x.back(0), -2);
        due("back(1)", x.back(1), 1);
        due("as it was kept", x.send(0, 0, 1), 1);
    }

    @HelperPromise(value = 4, says = "how many UNITS")
    static void howManyUnits() {
        due("none", new TraitLines().tell(), 0);
        due("one", tellText(new TraitLines(), "trait Z"), 1);
        due("twelve", tellText(new TraitLines(), LADDER), 12);
    }

    @HelperPromise(value = 4, says = "-2 - its FAULT, and but for the TAPE nothing happens")
    static void aFaultChangesTheTapeAlone() {
        TraitLines x = told("trait T:a=1;type A uses T(a>b):c=super+1 d?");
        due("keep", x.keep(0), 2);
        due("give", x.give(1, 2, 5), 1);
        due("need", x.need(1, 4), 0);
        String before = picture(x);
        due("the least", tellText(x, "!"), -3);
        due("bytes", x.count(8), 0);
        due("late", tellText(x, "type A:a=9;trait T:a=9;type C of A uses T(-a):c=9;;"), -2 - (8 * 50 + 1));
        due("bytes", x.count(8), 0);
        due("of a name", tellText(x, "trait T;type T"), -2 - (8 * 13 + 2));
        due("of one too many", tellText(x, "type A:a=1+1+1+1+1"), -2 - (8 * 17 + 3));
        due("the greatest", tellText(x, " ".repeat(396) + "type"), -3203);
        unchanged(x, before);
        due("undo", x.undo(), 1);
        due("undo", x.undo(), 0);
        due("as it was", x.body(1, 2, 0), 1000);
        due("back", x.back(0), 2);
    }
}
