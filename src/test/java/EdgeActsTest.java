/** Boundary cases of promises 5 to 15, sentence by sentence: the acts, undo, keep, back. */
public final class EdgeActsTest extends HelperCheck {
    private static final String FAMILY = "type A;type B;type C;type D;type E;trait T;type F;type G of A B C D;type H of A;type I of E";
    private static final String OWNERS = "trait T:a=1 b?;type A uses T:c=5 d?e=5+0 f=super g=a;type B";
    private static final String USERS = "trait A:a=1;trait B;trait C;trait D;trait E;type F;type G uses A B C D;trait H uses E(-a)";
    private static final String CHANGERS = "trait S:a=1;trait T;type A uses T S(a>b -c d>d);type B uses S(-a -b -c -d -e -f)";

    public static void main(String[] args) throws Exception {
        HelperEdges.run(EdgeActsTest.class, 5, 15);
    }

    private static void parentsAre(TraitLines x, int type, int... due) {
        due("parents of " + type, x.unit(type, 2), due.length);
        for (int k = 0; k < due.length; k++) {
            due("parent " + k + " of " + type, x.parent(type, k), due[k]);
        }
        due("no more parents of " + type, x.parent(type, due.length), -1);
    }

    // ---- the terms

    @HelperPromise(value = 0, says = "ACTS: all from join() to change().")
    static void whatIsAnAct() {
        TraitLines x = told("trait S;trait T;type A;type B;type C of A B uses S:a=1");
        due("join", x.join(3, 2), 1);
        due("leave", x.leave(3, 2), 0);
        due("turn", x.turn(4), 2);
        due("give", x.give(4, 0, 2), 1);
        due("need", x.need(4, 0), 1);
        due("take", x.take(4, 0), 0);
        due("use", x.use(4, 1), 2);
        due("change", x.change(4, 1, 0, 1), 1);
        due("eight acts", x.count(7), 8);
        due("feed", x.feed(0, 0, 0, 0, 0), 20);
        due("end", x.end(3), 3);
        due("keep", x.keep(0), 5);
        due("no act among these", x.count(7), 8);
        due("undo is none", x.undo(), 7);
        due("acts", x.count(7), 7);
    }

    @HelperPromise(value = 0, says = "The last 10 can be UNDONE, the last first.")
    static void theLastTen() {
        for (int acts = 0; acts <= 25; acts++) {
            TraitLines x = told("type A:a=100");
            for (int n = 1; n <= acts; n++) {
                due("give", x.give(0, 0, n), 1);
                due("acts", x.count(7), Math.min(n, 10));
            }
            for (int n = 1; n <= Math.min(acts, 10); n++) {
                due("undo " + n + " of " + acts, x.undo(), Math.min(acts, 10) - n);
                due("the number ahead of it", x.body(0, 0, 0), acts == n ? 100 : acts - n);
            }
            due("the 11th", x.undo(), -1);
        }
    }

    @HelperPromise(value = 0, says = "(Refused: NONE ahead of -2, that ahead of -3.)")
    static void whichRefusalComesFirst() {
        TraitLines x = told("type A;type B;type C;type D;type E;trait T;type G of A B C D;trait U;trait V;trait W;trait X;"
            + "type K uses T U V W(-a -b -c -d -e -f):a?b?c?d?e?f?g?h=1");
        due("join: no type ahead of 4", x.join(6, 5), -1);
        due("join: itself ahead of 4", x.join(6, 6), -1);
        due("join: it is one ahead of 4", x.join(6, 3), -2);
        due("join: 4", x.join(6, 4), -3);
        due("give: n ahead of 8", x.give(11, 25, 1000), -1);
        due("give: letter ahead of 8", x.give(11, 26, 1), -1);
        due("give: it is so ahead of 8", x.give(11, 7, 1), -2);
        due("give: 8", x.give(11, 25, 1), -3);
        due("need: letter ahead of 8", x.need(11, -1), -1);
        due("need: it is ahead of 8", x.need(11, 0), -2);
        due("need: 8", x.need(11, 25), -3);
        due("use: no trait ahead of 4", x.use(11, 0), -1);
        due("use: it uses it ahead of 4", x.use(11, 9), -2);
        due("use: 4", x.use(11, 10), -3);
        due("change: to 26 ahead of 7", x.change(11, 9, 25, 26), -1);
        due("change: letter ahead of 7", x.change(11, 9, 26, 1), -1);
        due("change: it is so ahead of 7", x.change(11, 9, 25, 25), -2);
        due("change: it is so ahead of 7", x.change(11, 9, 0, -1), -2);
        due("change: 7", x.change(11, 9, 25, 24), -3);
        due("back: no shelf ahead of nothing", x.back(2), -1);
        due("back: nothing", x.back(1), -2);
        due("no acts", x.count(7), 0);
    }

    @HelperPromise(value = 0, says = "SHELVES 0, 1: the WORLD.")
    static void shelvesHoldTheWorld() {
        TraitLines x = told("type A:a=1");
        due("give", x.give(0, 0, 2), 1);
        feedText(x, "type");
        due("keep(-1)", x.keep(-1), -1);
        due("keep(0)", x.keep(0), 1);
        due("keep(2)", x.keep(2), -1);
        due("end", x.end(2), 2);
        due("back(0)", x.back(0), 1);
        due("the tape is none of it", x.count(8), 2);
        due("nor are the acts", x.count(7), 0);
        due("the other shelf is empty", x.back(1), -2);
        due("keep(1)", x.keep(1), 1);
        due("give", x.give(0, 0, 3), 1);
        due("keep(0) again", x.keep(0), 1);
        due("back(1)", x.back(1), 1);
        due("it is as it was", x.body(0, 0, 0), 2);
        due("back(0)", x.back(0), 1);
        due("the later one", x.body(0, 0, 0), 3);
    }

    // ---- join

    @HelperPromise(value = 5, says = "A TYPE has one PARENT more, behind the others: how many")
    static void joinBehindTheOthers() {
        TraitLines x = told(FAMILY);
        parentsAre(x, 6);
        due("the first", x.join(6, 3), 1);
        parentsAre(x, 6, 3);
        due("the second", x.join(6, 0), 2);
        due("the third", x.join(6, 4), 3);
        due("the fourth", x.join(6, 1), 4);
        parentsAre(x, 6, 3, 0, 4, 1);
        due("the least", x.join(1, 0), 1);
        due("the greatest", x.join(9, 8), 2);
        parentsAre(x, 9, 4, 8);
        due("all are acts", x.count(7), 6);
    }

    @HelperPromise(value = 5, says = "NONE, and nothing happens, if one of both is no TYPE there")
    static void joinOfNoType() {
        TraitLines x = told("type A;trait T;type B;type C of A");
        due("join", x.join(3, 2), 2);
        String before = picture(x);
        for (int no : noUnits(4)) {
            due("join(" + no + ", 0)", x.join(no, 0), -1);
            due("join(3, " + no + ")", x.join(3, no), -1);
        }
        due("a trait has none", x.join(1, 0), -1);
        due("a trait is none", x.join(3, 1), -1);
        unchanged(x, before);
        due("in no world", new TraitLines().join(0, 0), -1);
        due("in no world", new TraitLines().join(1, 0), -1);
    }

    @HelperPromise(value = 5, says = "or the second is not told ahead of the first")
    static void joinOfOneBehind() {
        TraitLines x = told("type A;type B;type C of B");
        String before = picture(x);
        due("itself", x.join(0, 0), -1);
        due("itself", x.join(2, 2), -1);
        due("the next one", x.join(0, 1), -1);
        due("one that is of it", x.join(1, 2), -1);
        due("a later one", x.join(0, 2), -1);
        unchanged(x, before);
        due("one ahead", x.join(1, 0), 1);
    }

    @HelperPromise(value = 5, says = "-2: it is one")
    static void joinOfOneThatIs() {
        TraitLines x = told(FAMILY);
        String before = picture(x);
        for (int parent = 0; parent < 4; parent++) {
            due("join(7, " + parent + ")", x.join(7, parent), -2);
        }
        due("the only one", x.join(8, 0), -2);
        unchanged(x, before);
        due("a parent's parent is none", told("type A;type B of A;type C of B").join(2, 0), 2);
        due("leave", x.leave(7, 3), 3);
        due("it is none now", x.join(7, 3), 4);
    }

    @HelperPromise(value = 5, says = "-3: there are 4")
    static void joinOfAFifth() {
        TraitLines x = told(FAMILY);
        String before = picture(x);
        due("a 5th", x.join(7, 4), -3);
        due("a 5th", x.join(7, 6), -3);
        unchanged(x, before);
        due("leave", x.leave(7, 0), 3);
        due("a 4th", x.join(7, 4), 4);
        due("a 5th", x.join(7, 0), -3);
    }

    // ---- leave

    @HelperPromise(value = 6, says = "A TYPE has a PARENT less: how many are left")
    static void leaveOneByOne() {
        TraitLines x = told(FAMILY);
        due("the second of four", x.leave(7, 1), 3);
        parentsAre(x, 7, 0, 2, 3);
        due("the last", x.leave(7, 3), 2);
        parentsAre(x, 7, 0, 2);
        due("the first", x.leave(7, 0), 1);
        parentsAre(x, 7, 2);
        due("the only one", x.leave(7, 2), 0);
        parentsAre(x, 7);
        parentsAre(x, 8, 0);
        due("of a line of its own", x.line(7, -1), 1);
    }

    @HelperPromise(value = 6, says = "NONE, and nothing happens, if it is none")
    static void leaveOfNone() {
        TraitLines x = told("type A;type B of A;type C of B;trait T;type D uses T");
        due("join", x.join(4, 1), 1);
        String before = picture(x);
        for (int no : noUnits(5)) {
            due("leave(" + no + ", 0)", x.leave(no, 0), -1);
            due("leave(2, " + no + ")", x.leave(2, no), -1);
        }
        due("a parent's parent", x.leave(2, 0), -1);
        due("itself", x.leave(2, 2), -1);
        due("one that is of it", x.leave(0, 1), -1);
        due("of a trait", x.leave(3, 0), -1);
        due("a trait", x.leave(4, 3), -1);
        due("of one that has none", x.leave(0, 0), -1);
        unchanged(x, before);
        due("leave", x.leave(2, 1), 0);
        due("once more", x.leave(2, 1), -1);
        due("in no world", new TraitLines().leave(0, 0), -1);
    }

    // ---- turn

    @HelperPromise(value = 7, says = "The PARENTS of a TYPE come in the order from the last to the first: how many")
    static void turnOfTwoToFour() {
        TraitLines x = told("type A;type B;type C;type D;type E of A C;type F of B A D;type G of D A C B");
        due("two", x.turn(4), 2);
        parentsAre(x, 4, 2, 0);
        due("three", x.turn(5), 3);
        parentsAre(x, 5, 3, 0, 1);
        due("four", x.turn(6), 4);
        parentsAre(x, 6, 1, 2, 0, 3);
        due("and back", x.turn(6), 4);
        parentsAre(x, 6, 3, 0, 2, 1);
        due("all are acts", x.count(7), 4);
    }

    @HelperPromise(value = 7, says = "NONE, and nothing happens, without that TYPE")
    static void turnOfNoType() {
        TraitLines x = told("type A;type B;trait T;type C of A B");
        String before = picture(x);
        for (int no : noUnits(4)) {
            due("turn(" + no + ")", x.turn(no), -1);
        }
        due("a trait", x.turn(2), -1);
        unchanged(x, before);
        due("in no world", new TraitLines().turn(0), -1);
    }

    @HelperPromise(value = 7, says = "-2: it has fewer than 2")
    static void turnOfFewerThanTwo() {
        TraitLines x = told("type A;type B of A;type C of A");
        String before = picture(x);
        due("none", x.turn(0), -2);
        due("one", x.turn(1), -2);
        unchanged(x, before);
        due("join", x.join(2, 1), 2);
        due("two", x.turn(2), 2);
    }

    // ---- give

    @HelperPromise(value = 8, says = "An own MEMBER of a UNIT (its letter a to z as 0 to 25) has the BODY n (0 to 999)")
    static void giveTheLeastAndTheGreatest() {
        TraitLines x = told(OWNERS);
        due("a", x.give(2, 0, 0), 0);
        due("0", x.body(2, 0, 0), 0);
        due("z", x.give(2, 25, 999), 0);
        due("999", x.body(2, 25, 0), 999);
        due("a and z alone", x.unit(2, 4), bits(0, 25));
        due("to a trait", x.give(0, 25, 998), 0);
        due("998", x.body(0, 25, 0), 998);
        due("in the last of twelve", told(LADDER).give(11, 25, 1), 0);
    }

    @HelperPromise(value = 8, says = "in place of what it was: 1 if it was told in that UNIT, else 0")
    static void giveInPlaceOf() {
        TraitLines x = told(OWNERS);
        due("required", x.give(1, 3, 1), 1);
        due("it has a term", x.body(1, 3, -1), 1);
        due("required no more", x.unit(1, 5), 0);
        due("a number", x.give(1, 2, 6), 1);
        due("two terms", x.give(1, 4, 6), 1);
        due("one of them is left", x.body(1, 4, -1), 1);
        due("no second", x.body(1, 4, 1), -2);
        due("super", x.give(1, 5, 0), 1);
        due("a member", x.give(1, 6, 0), 1);
        due("a was given by a trait", x.give(1, 0, 9), 0);
        due("a is told in the trait still", x.body(0, 0, 0), 1);
        due("own members", x.unit(1, 4), bits(0, 2, 3, 4, 5, 6));
    }

    @HelperPromise(value = 8, says = "NONE, and nothing happens, without that UNIT, letter, n")
    static void giveWithoutThese() {
        TraitLines x = told(OWNERS);
        due("give", x.give(2, 0, 1), 0);
        String before = picture(x);
        for (int no : noUnits(3)) {
            due("unit " + no, x.give(no, 2, 1), -1);
        }
        for (int no : NO_LETTERS) {
            due("letter " + no, x.give(1, no, 1), -1);
        }
        for (int no : new int[] {-1, 1000, 1001, LEAST, MOST, -999}) {
            due("n " + no, x.give(1, 2, no), -1);
            due("n " + no + " of a new one", x.give(1, 25, no), -1);
        }
        unchanged(x, before);
        due("in no world", new TraitLines().give(0, 0, 0), -1);
    }

    @HelperPromise(value = 8, says = "-2: its BODY is that number alone")
    static void giveWhatIs() {
        TraitLines x = told(OWNERS);
        String before = picture(x);
        due("5", x.give(1, 2, 5), -2);
        due("1 of a trait", x.give(0, 0, 1), -2);
        unchanged(x, before);
        due("5+0 is not 5 alone", x.give(1, 4, 5), 1);
        due("now it is", x.give(1, 4, 5), -2);
        due("required is not 0", x.give(1, 3, 0), 1);
        due("need", x.need(1, 2), 1);
        due("what was 5 is required", x.give(1, 2, 5), 1);
        due("take", x.take(1, 2), 4);
        due("what was 5 is none", x.give(1, 2, 5), 0);
        due("now it is", x.give(1, 2, 5), -2);
        // of one that is none nothing is left, though what stood in its place once did
        due("none", x.give(2, 2, 0), 0);
    }

    @HelperPromise(value = 8, says = "-3: it is none yet, and there are 8")
    static void giveANinth() {
        TraitLines x = told("type A:a?b?c?d?e?f?g=1 h=1;trait T:a?b?c?d?e?f?g=1");
        String before = picture(x);
        due("a 9th", x.give(0, 8, 1), -3);
        due("a 9th", x.give(0, 25, 1), -3);
        unchanged(x, before);
        due("one of 8", x.give(0, 0, 1), 1);
        due("one of 8", x.give(0, 7, 2), 1);
        due("an 8th", x.give(1, 25, 1), 0);
        due("a 9th", x.give(1, 24, 1), -3);
        due("take", x.take(1, 0), 7);
        due("an 8th", x.give(1, 24, 1), 0);
        due("a 9th", x.give(1, 0, 1), -3);
    }

    // ---- need

    @HelperPromise(value = 9, says = "An own MEMBER of a UNIT is REQUIRED, in place of what it was: as give()")
    static void needAsGive() {
        TraitLines x = told(OWNERS);
        due("a number", x.need(1, 2), 1);
        due("no terms", x.body(1, 2, -1), 0);
        due("two terms", x.need(1, 4), 1);
        due("no terms", x.body(1, 4, 0), -2);
        due("a", x.need(2, 0), 0);
        due("z", x.need(2, 25), 0);
        due("required", x.unit(2, 5), bits(0, 25));
        due("of a trait", x.need(0, 0), 1);
        due("a, given by a trait alone", x.need(1, 0), 0);
    }

    @HelperPromise(value = 9, says = "as give()")
    static void needRefusedAsGive() {
        TraitLines x = told("trait T:a=1;type A:a?b?c?d?e?f?g=1 h=1");
        String before = picture(x);
        for (int no : noUnits(2)) {
            due("unit " + no, x.need(no, 0), -1);
        }
        for (int no : NO_LETTERS) {
            due("letter " + no, x.need(0, no), -1);
            due("letter " + no + " where 8 are", x.need(1, no), -1);
        }
        due("a 9th", x.need(1, 8), -3);
        due("a 9th", x.need(1, 25), -3);
        unchanged(x, before);
        due("one of 8", x.need(1, 7), 1);
        due("in no world", new TraitLines().need(0, 0), -1);
    }

    @HelperPromise(value = 9, says = "-2: it is.")
    static void needWhatIs() {
        TraitLines x = told(OWNERS);
        String before = picture(x);
        due("d", x.need(1, 3), -2);
        due("b of a trait", x.need(0, 1), -2);
        unchanged(x, before);
        due("b, required by a trait alone", x.need(1, 1), 0);
        due("now it is", x.need(1, 1), -2);
        due("a new one", x.need(2, 1), 0);
        due("now it is", x.need(2, 1), -2);
        due("take", x.take(2, 1), 0);
        due("it is no more", x.need(2, 1), 0);
    }

    // ---- take

    @HelperPromise(value = 10, says = "An own MEMBER of a UNIT is told no more: how many are left")
    static void takeOneByOne() {
        TraitLines x = told("type A:a?b?c?d?e=1 f=super g=1+2 z=z;trait T:a=1");
        int left = 8;
        for (int member : new int[] {25, 0, 6, 1, 4, 5, 2, 3}) {
            left--;
            due("take " + member, x.take(0, member), left);
            due("it is none", x.body(0, member, -1), -1);
            due("own members", Integer.bitCount(x.unit(0, 4)), left);
        }
        due("of a trait", x.take(1, 0), 0);
        due("nothing is flat there", x.unit(1, 6), 0);
    }

    @HelperPromise(value = 10, says = "NONE, and nothing happens, if it is none")
    static void takeOfNone() {
        TraitLines x = told(OWNERS);
        due("need", x.need(1, 25), 0);
        String before = picture(x);
        for (int no : noUnits(3)) {
            due("unit " + no, x.take(no, 0), -1);
        }
        for (int no : NO_LETTERS) {
            due("letter " + no, x.take(1, no), -1);
        }
        due("given by a trait alone", x.take(1, 0), -1);
        due("required by a trait alone", x.take(1, 1), -1);
        due("of a unit that has none", x.take(2, 0), -1);
        unchanged(x, before);
        due("take", x.take(1, 25), 5);
        due("once more", x.take(1, 25), -1);
        due("in no world", new TraitLines().take(0, 0), -1);
    }

    // ---- use

    @HelperPromise(value = 11, says = "A UNIT uses one TRAIT more, behind the others, without CHANGES: how many")
    static void useBehindTheOthers() {
        TraitLines x = told(USERS);
        int[] traits = {3, 0, 4, 1};
        for (int k = 0; k < 4; k++) {
            due("use(5, " + traits[k] + ")", x.use(5, traits[k]), k + 1);
            due("behind the others", x.used(5, k), traits[k]);
            due("no more", x.used(5, k + 1), -1);
            for (int member = 0; member < 26; member++) {
                due("without changes", x.becomes(5, k, member), member);
            }
        }
        due("a trait", x.use(7, 0), 2);
        due("behind", x.used(7, 1), 0);
        due("the least", x.use(1, 0), 1);
        due("the greatest", x.use(7, 6), -1);
        // changes of a use that was undone do not come back
        due("change", x.change(7, 0, 0, -1), 1);
        due("undo", x.undo(), 6);
        due("undo", x.undo(), 5);
        due("undo", x.undo(), 4);
        due("use again", x.use(7, 1), 2);
        due("without changes", x.becomes(7, 1, 0), 0);
        due("six can come", x.change(7, 1, 0, -1), 1);
    }

    @HelperPromise(value = 11, says = "NONE, and nothing happens, without that UNIT, that TRAIT, or if that is not told ahead of the UNIT")
    static void useWithoutThese() {
        TraitLines x = told("trait S;type A;trait T;type B uses S");
        due("use", x.use(1, 0), 1);
        String before = picture(x);
        for (int no : noUnits(4)) {
            due("unit " + no, x.use(no, 0), -1);
            due("trait " + no, x.use(3, no), -1);
        }
        due("a type is none", x.use(3, 1), -1);
        due("itself", x.use(2, 2), -1);
        due("itself", x.use(3, 3), -1);
        due("a later one", x.use(1, 2), -1);
        due("a later one", x.use(0, 2), -1);
        unchanged(x, before);
        due("one ahead", x.use(3, 2), 2);
        due("in no world", new TraitLines().use(0, 0), -1);
    }

    @HelperPromise(value = 11, says = "-2: it uses it")
    static void useOfOneThatIs() {
        TraitLines x = told(USERS);
        String before = picture(x);
        for (int trait = 0; trait < 4; trait++) {
            due("use(6, " + trait + ")", x.use(6, trait), -2);
        }
        due("with changes", x.use(7, 4), -2);
        unchanged(x, before);
        due("one that its trait uses", told("trait S;trait T uses S;type A uses T").use(2, 0), 2);
    }

    @HelperPromise(value = 11, says = "-3: it uses 4")
    static void useOfAFifth() {
        TraitLines x = told(USERS);
        String before = picture(x);
        due("a 5th", x.use(6, 4), -3);
        unchanged(x, before);
        for (int trait = 0; trait < 4; trait++) {
            due("use", x.use(5, trait), trait + 1);
        }
        due("a 5th", x.use(5, 4), -3);
        due("undo", x.undo(), 3);
        due("a 4th", x.use(5, 4), 4);
    }

    // ---- change

    @HelperPromise(value = 12, says = "A CHANGE of a TRAIT that a UNIT uses, in place of one of that MEMBER: it becomes another one")
    static void changeInPlaceOf() {
        TraitLines x = told(CHANGERS);
        due("the first letter", x.change(2, 0, 0, 25), 2);
        due("z", x.becomes(2, 1, 0), 25);
        due("the last letter", x.change(2, 0, 25, 0), 3);
        due("a", x.becomes(2, 1, 25), 0);
        due("left out till now", x.change(2, 0, 2, 3), 3);
        due("d", x.becomes(2, 1, 2), 3);
        due("the other use is as it was", x.becomes(2, 0, 0), 0);
        due("the other use", x.change(2, 1, 0, 1), 1);
        due("one of six", x.change(3, 0, 0, 1), 6);
        due("b", x.becomes(3, 0, 0), 1);
    }

    @HelperPromise(value = 12, says = "(to NONE: it is left out; to itself: it stays as it is, there is no CHANGE then)")
    static void changeToNoneAndToItself() {
        TraitLines x = told(CHANGERS);
        due("left out", x.change(2, 0, 0, -1), 2);
        due("it is", x.becomes(2, 1, 0), -2);
        due("nothing comes from it", x.unit(2, 6), 0);
        due("to itself", x.change(2, 0, 0, 0), 1);
        due("it stays", x.becomes(2, 1, 0), 0);
        due("it comes", x.unit(2, 7), 1);
        due("to itself", x.change(2, 0, 2, 2), 0);
        due("a new one", x.change(2, 0, 2, -1), 1);
        for (int n = 0; n < 6; n++) {
            due("six less", x.change(3, 0, n, n), 5 - n);
        }
    }

    @HelperPromise(value = 12, says = "how many CHANGES there are")
    static void howManyChanges() {
        TraitLines x = told("trait S;type A uses S(a>a b>b)");
        for (int n = 1; n <= 6; n++) {
            due("change " + n, x.change(1, 0, 26 - n, -1), n);
        }
        due("in place of one", x.change(1, 0, 25, 0), 6);
        for (int n = 5; n >= 0; n--) {
            due("one less", x.change(1, 0, 25 - n, 25 - n), n);
        }
    }

    @HelperPromise(value = 12, says = "NONE, and nothing happens, without these, if the UNIT does not use it")
    static void changeWithoutThese() {
        TraitLines x = told("trait S;trait T;trait U uses T;type A uses S(-a)U");
        due("change", x.change(3, 0, 1, 2), 2);
        String before = picture(x);
        for (int no : noUnits(4)) {
            due("unit " + no, x.change(no, 0, 0, 1), -1);
            due("trait " + no, x.change(3, no, 0, 1), -1);
        }
        for (int no : NO_LETTERS) {
            due("letter " + no, x.change(3, 0, no, 1), -1);
            due("letter " + no + " out", x.change(3, 0, no, -1), -1);
            due("to " + no, no == -1 ? -1 : x.change(3, 0, 3, no), -1);
        }
        due("one that its trait uses", x.change(3, 1, 0, 1), -1);
        due("a unit that uses none", x.change(0, 0, 0, 1), -1);
        due("a type", x.change(3, 3, 0, 1), -1);
        unchanged(x, before);
        due("in no world", new TraitLines().change(0, 0, 0, 0), -1);
    }

    @HelperPromise(value = 12, says = "-2: it is so")
    static void changeThatIs() {
        TraitLines x = told(CHANGERS);
        String before = picture(x);
        due("it becomes that", x.change(2, 0, 0, 1), -2);
        due("it is left out", x.change(2, 0, 2, -1), -2);
        due("it stays", x.change(2, 0, 3, 3), -2);
        due("it stays", x.change(2, 0, 25, 25), -2);
        due("one of six", x.change(3, 0, 5, -1), -2);
        due("it stays, beside six", x.change(3, 0, 6, 6), -2);
        unchanged(x, before);
    }

    @HelperPromise(value = 12, says = "-3: there would be 7")
    static void changeOfASeventh() {
        TraitLines x = told(CHANGERS);
        String before = picture(x);
        due("a 7th", x.change(3, 0, 6, 7), -3);
        due("a 7th out", x.change(3, 0, 25, -1), -3);
        unchanged(x, before);
        due("one of six otherwise", x.change(3, 0, 5, 6), 6);
        due("one of six less", x.change(3, 0, 5, 5), 5);
        due("a 6th", x.change(3, 0, 25, -1), 6);
        due("a 7th", x.change(3, 0, 5, 6), -3);
    }

    // ---- undo

    @HelperPromise(value = 13, says = "The last ACT is UNDONE: how many more can be")
    static void undoOfEachAct() {
        for (int act = 0; act < 10; act++) {
            TraitLines x = told("trait S:a=1;trait T;type A;type B;type C of A B uses S(a>b):c=3+c d?");
            due("an act ahead of it", x.give(3, 25, 9), 0);
            String before = picture(x);
            due("act " + act, doAct(x, act) >= 0 ? 1 : 0, 1);
            due("two acts", x.count(7), 2);
            due("undo of act " + act, x.undo(), 1);
            unchanged(x, before);
            due("undo of the one ahead", x.undo(), 0);
            due("it is none", x.body(3, 25, -1), -1);
        }
    }

    private static int doAct(TraitLines x, int act) {
        switch (act) {
            case 0: return x.join(3, 2);
            case 1: return x.leave(4, 2);
            case 2: return x.turn(4);
            case 3: return x.give(4, 2, 4);
            case 4: return x.give(4, 0, 4);
            case 5: return x.need(4, 2);
            case 6: return x.take(4, 2);
            case 7: return x.use(4, 1);
            case 8: return x.change(4, 0, 0, 0);
            default: return x.change(4, 0, 4, -1);
        }
    }

    @HelperPromise(value = 13, says = "how many more can be")
    static void undoAndActAgain() {
        TraitLines x = told("type A;type B;type C of A B:a=1+super b?;trait T:z=1;type D uses T(z>a)");
        for (int round = 0; round < 3; round++) {
            due("turn", x.turn(2), 2);
            due("take", x.take(2, 1), 1);
            due("need", x.need(2, 0), 1);
            due("leave", x.leave(2, 0), 1);
            due("use", x.use(4, 3), -2);
            due("refused acts are none", x.count(7), 4);
            due("undo leave", x.undo(), 3);
            parentsAre(x, 2, 1, 0);
            due("undo need", x.undo(), 2);
            due("its terms", x.body(2, 0, 1), 1000);
            due("undo take", x.undo(), 1);
            due("told again", x.unit(2, 5), 2);
            due("undo turn", x.undo(), 0);
            parentsAre(x, 2, 0, 1);
            due("none can", x.undo(), -1);
        }
    }

    @HelperPromise(value = 13, says = "The last ACT is UNDONE")
    static void undoOfHowMany() {
        TraitLines x = told("trait S;type A;type B uses S(-a -b -c -d -e):a?b?c?d?e?f?g?");
        for (int round = 0; round < 2; round++) {
            due("a 6th change", x.change(2, 0, 25, -1), 6);
            due("a 7th", x.change(2, 0, 24, -1), -3);
            due("an 8th member", x.need(2, 25), 0);
            due("a 9th", x.need(2, 24), -3);
            due("a parent", x.join(2, 1), 1);
            due("undo join", x.undo(), 2);
            due("undo need", x.undo(), 1);
            due("undo change", x.undo(), 0);
            due("five changes", x.becomes(2, 0, 25), 25);
            due("seven members", x.unit(2, 4), 127);
            due("no parents", x.unit(2, 2), 0);
        }
    }

    @HelperPromise(value = 13, says = "NONE, and nothing happens, if none can")
    static void undoOfNone() {
        due("of a new object", new TraitLines().undo(), -1);
        TraitLines x = told("type A:a=1;type B of A");
        String before = picture(x);
        due("of a world that was told", x.undo(), -1);
        unchanged(x, before);
        for (int n = 10; n < 21; n++) {
            due("give", x.give(0, 0, n), 1);
        }
        for (int n = 9; n >= 0; n--) {
            due("undo", x.undo(), n);
        }
        before = picture(x);
        due("the 11th", x.undo(), -1);
        unchanged(x, before);
        due("it is as the first of eleven made it", x.body(0, 0, 0), 10);
        due("an act behind that", x.give(0, 0, 500), 1);
        due("one can", x.undo(), 0);
        due("as it was", x.body(0, 0, 0), 10);
    }

    // ---- keep, back

    @HelperPromise(value = 14, says = "All is KEPT on a SHELF: how many UNITS")
    static void keepNoneAndTwelve() {
        TraitLines x = new TraitLines();
        due("no world", x.keep(0), 0);
        due("that is kept, too", x.count(9), 1);
        due("tell", tellText(x, LADDER), 12);
        due("twelve", x.keep(1), 12);
        due("both", x.count(9), 3);
        due("tell", tellText(x, "type A"), 1);
        due("in place of what was kept", x.keep(0), 1);
        due("back(1)", x.back(1), 12);
        due("the last one's line", x.line(11, -1), 12);
        due("back(0)", x.back(0), 1);
        due("the first one's line", x.line(0, -1), 1);
    }

    @HelperPromise(value = 14, says = "NONE, and nothing happens, without that SHELF")
    static void keepOnNoShelf() {
        TraitLines x = told("type A:a=1");
        due("give", x.give(0, 0, 2), 1);
        String before = picture(x);
        for (int no : new int[] {-1, 2, 3, 32, 33, LEAST, MOST}) {
            due("keep(" + no + ")", x.keep(no), -1);
        }
        unchanged(x, before);
        due("nothing is kept", x.back(0), -2);
        due("nothing is kept", x.back(1), -2);
    }

    @HelperPromise(value = 15, says = "All is as it was KEPT (nothing can be UNDONE then): how many UNITS")
    static void backToAll() {
        TraitLines x = told("trait S:a=1;trait T:b?;type A;type B:z=z;type C of A B uses S(a>b) T(-c):c=3+super d?");
        due("keep", x.keep(0), 5);
        String before = picture(x);
        due("give", x.give(4, 2, 1), 1);
        due("turn", x.turn(4), 2);
        due("change", x.change(4, 0, 0, -1), 1);
        due("take", x.take(3, 25), 0);
        due("use", x.use(3, 1), 1);
        due("back", x.back(0), 5);
        unchanged(x, before);
        due("nothing can be undone", x.undo(), -1);
        due("give", x.give(4, 2, 1), 1);
        due("one act", x.count(7), 1);
        due("back once more", x.back(0), 5);
        due("the shelf did not change along", x.body(4, 2, 1), 1000);
        due("acts", x.count(7), 0);
        // units of the other kind, and with other changes, stand there meanwhile
        due("tell", tellText(x, "type V;type W;trait X;trait Y:b=1;trait Z uses X(-a -b -c) Y(-a -b -c)"), 5);
        due("back from there", x.back(0), 5);
        unchanged(x, before);
        due("a second change", x.change(4, 0, 5, -1), 2);
        due("a second change", x.change(4, 1, 5, -1), 2);
        due("a third member", x.give(4, 25, 1), 0);
        due("take", x.take(4, 25), 2);
    }

    @HelperPromise(value = 15, says = "how many UNITS")
    static void backToNoneAndTwelve() {
        TraitLines x = new TraitLines();
        due("keep", x.keep(1), 0);
        due("tell", tellText(x, LADDER), 12);
        due("keep", x.keep(0), 12);
        due("none", x.back(1), 0);
        due("units", x.count(0), 0);
        due("no unit", x.unit(0, 0), -1);
        due("twelve", x.back(0), 12);
        due("units", x.count(0), 12);
        due("the last one's parent", x.parent(11, 0), 10);
    }

    @HelperPromise(value = 15, says = "NONE, and nothing happens, without that SHELF")
    static void backFromNoShelf() {
        TraitLines x = told("type A:a=1");
        due("keep", x.keep(0), 1);
        due("keep", x.keep(1), 1);
        due("give", x.give(0, 0, 2), 1);
        String before = picture(x);
        for (int no : new int[] {-1, 2, 3, 32, 33, LEAST, MOST}) {
            due("back(" + no + ")", x.back(no), -1);
        }
        unchanged(x, before);
        due("undo", x.undo(), 0);
    }

    @HelperPromise(value = 15, says = "-2: nothing is")
    static void backFromAnEmptyShelf() {
        due("of a new object", new TraitLines().back(0), -2);
        TraitLines x = told("type A:a=1");
        due("give", x.give(0, 0, 2), 1);
        String before = picture(x);
        due("back(0)", x.back(0), -2);
        due("back(1)", x.back(1), -2);
        unchanged(x, before);
        due("keep(0)", x.keep(0), 1);
        due("back(1), the other one", x.back(1), -2);
        due("undo", x.undo(), 0);
        due("keep(1)", x.keep(1), 1);
        due("back(1)", x.back(1), 1);
    }
}
