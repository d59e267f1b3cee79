/** Promises 5 to 15: the acts, undo, keep, back. */
public final class ActsTest extends HelperCheck {
    public static void main(String[] args) {
        join();
        leave();
        turn();
        give();
        need();
        take();
        use();
        change();
        undo();
        undoOfEachAct();
        shelves();
        finish("ActsTest");
    }

    private static void join() {
        TraitLines x = told("type A;type B;type C;type D;type E;trait T;type F");
        due("join(6, 3)", x.join(6, 3), 1);
        due("join(6, 3) again", x.join(6, 3), -2);
        due("join(6, 6)", x.join(6, 6), -1);
        due("join(3, 6)", x.join(3, 6), -1);
        due("join a trait", x.join(6, 5), -1);
        due("join to a trait", x.join(5, 0), -1);
        due("join(7, 0)", x.join(7, 0), -1);
        due("join(6, 7)", x.join(6, 7), -1);
        due("join(-1, 0)", x.join(-1, 0), -1);
        due("join(6, -1)", x.join(6, -1), -1);
        due("join(MAX, MIN)", x.join(Integer.MAX_VALUE, Integer.MIN_VALUE), -1);
        due("join(6, 0)", x.join(6, 0), 2);
        due("join(6, 1)", x.join(6, 1), 3);
        due("join(6, 2)", x.join(6, 2), 4);
        due("join a 5th", x.join(6, 4), -3);
        due("join one of 4", x.join(6, 2), -2);
        due("the last parent", x.parent(6, 3), 2);
        due("the first parent", x.parent(6, 0), 3);
        due("acts", x.count(7), 4);
    }

    private static void leave() {
        TraitLines x = told("type A;type B;type C;type D of A B C;trait T");
        due("leave(3, 1)", x.leave(3, 1), 2);
        due("leave(3, 1) again", x.leave(3, 1), -1);
        due("parent 0", x.parent(3, 0), 0);
        due("parent 1", x.parent(3, 1), 2);
        due("parent 2", x.parent(3, 2), -1);
        due("leave(3, 3)", x.leave(3, 3), -1);
        due("leave(4, 0)", x.leave(4, 0), -1);
        due("leave(5, 0)", x.leave(5, 0), -1);
        due("leave(-1, 0)", x.leave(-1, 0), -1);
        due("leave(3, MIN)", x.leave(3, Integer.MIN_VALUE), -1);
        due("leave(3, -1)", x.leave(3, -1), -1);
        due("leave(3, 0)", x.leave(3, 0), 1);
        due("leave(3, 2)", x.leave(3, 2), 0);
        due("leave of none", x.leave(3, 0), -1);
        due("acts", x.count(7), 3);
    }

    private static void turn() {
        TraitLines x = told("type A;type B;type C;type D;type E of A B C D;type F of A B C;type G of A;trait T");
        due("turn(4)", x.turn(4), 4);
        for (int k = 0; k < 4; k++) {
            due("turned parent", x.parent(4, k), 3 - k);
        }
        due("turn(5)", x.turn(5), 3);
        for (int k = 0; k < 3; k++) {
            due("turned parent", x.parent(5, k), 2 - k);
        }
        due("turn of one", x.turn(6), -2);
        due("turn of none", x.turn(0), -2);
        due("turn of a trait", x.turn(7), -1);
        due("turn(8)", x.turn(8), -1);
        due("turn(-1)", x.turn(-1), -1);
        due("acts", x.count(7), 2);
    }

    private static void give() {
        TraitLines x = told("type A:a?b=5c=5+0d=super;trait T");
        due("give to required", x.give(0, 0, 0), 1);
        due("its terms", x.body(0, 0, -1), 1);
        due("its number", x.body(0, 0, 0), 0);
        due("give the same", x.give(0, 1, 5), -2);
        due("give another", x.give(0, 1, 6), 1);
        due("two terms are not that number alone", x.give(0, 2, 5), 1);
        due("its terms", x.body(0, 2, -1), 1);
        due("super is no number", x.give(0, 3, 1000), -1);
        due("give for super", x.give(0, 3, 999), 1);
        due("give a new one", x.give(0, 4, 1), 0);
        due("give -1", x.give(0, 4, -1), -1);
        due("letter 26", x.give(0, 26, 1), -1);
        due("letter -1", x.give(0, -1, 1), -1);
        due("unit 2", x.give(2, 0, 1), -1);
        due("unit -1", x.give(-1, 0, 1), -1);
        due("give to a trait", x.give(1, 25, 999), 0);
        due("5", x.give(0, 5, 1), 0);
        due("6", x.give(0, 6, 1), 0);
        due("7", x.give(0, 7, 1), 0);
        due("a 9th", x.give(0, 8, 1), -3);
        due("one of 8", x.give(0, 7, 2), 1);
        due("the same of 8", x.give(0, 7, 2), -2);
        due("own members", x.unit(0, 4), 255);
    }

    private static void need() {
        TraitLines x = told("type A:a?b=5;trait T");
        due("need what is", x.need(0, 0), -2);
        due("need a body", x.need(0, 1), 1);
        due("it has no terms", x.body(0, 1, -1), 0);
        due("need a new one", x.need(0, 2), 0);
        due("letter 26", x.need(0, 26), -1);
        due("letter -1", x.need(0, -1), -1);
        due("unit 2", x.need(2, 0), -1);
        due("unit -1", x.need(-1, 0), -1);
        due("need in a trait", x.need(1, 0), 0);
        for (int member = 3; member < 8; member++) {
            due("need", x.need(0, member), 0);
        }
        due("a 9th", x.need(0, 8), -3);
        due("one of 8", x.need(0, 7), -2);
        due("required", x.unit(0, 5), 255);
    }

    private static void take() {
        TraitLines x = told("type A:a?b=5;trait T:a=1");
        due("take a", x.take(0, 0), 1);
        due("take a again", x.take(0, 0), -1);
        due("take b", x.take(0, 1), 0);
        due("take of a trait", x.take(1, 0), 0);
        due("letter 26", x.take(0, 26), -1);
        due("letter -1", x.take(0, -1), -1);
        due("unit 2", x.take(2, 0), -1);
        due("unit -1", x.take(-1, 0), -1);
        due("own members", x.unit(0, 4), 0);
        for (int member = 0; member < 8; member++) {
            due("room again", x.give(0, member, 7), 0);
        }
        due("a 9th", x.give(0, 9, 7), -3);
    }

    private static void use() {
        TraitLines x = told("trait A;trait B;trait C;trait D;trait E;type F;trait G uses A(-a)");
        due("use(5, 2)", x.use(5, 2), 1);
        due("use(5, 2) again", x.use(5, 2), -2);
        due("use(5, 6)", x.use(5, 6), -1);
        due("use(6, 5)", x.use(6, 5), -1);
        due("use(6, 6)", x.use(6, 6), -1);
        due("use(7, 0)", x.use(7, 0), -1);
        due("use(5, 7)", x.use(5, 7), -1);
        due("use(-1, 0)", x.use(-1, 0), -1);
        due("use(5, -1)", x.use(5, -1), -1);
        due("use(5, 0)", x.use(5, 0), 2);
        due("use(5, 1)", x.use(5, 1), 3);
        due("use(5, 3)", x.use(5, 3), 4);
        due("use a 5th", x.use(5, 4), -3);
        due("use one of 4", x.use(5, 3), -2);
        due("the first", x.used(5, 0), 2);
        due("the last", x.used(5, 3), 3);
        due("no changes", x.becomes(5, 1, 0), 0);
        due("a trait uses", x.use(6, 4), 2);
        due("use(0, 0)", x.use(0, 0), -1);
    }

    private static void change() {
        TraitLines x = told("trait S:a=1;trait T:a=2;type A uses T S(a>a -b);type B");
        due("told to stay is no change", x.change(2, 0, 2, 3), 2);
        due("it is so", x.change(2, 0, 2, 3), -2);
        due("it stays", x.change(2, 0, 0, 0), -2);
        due("left out already", x.change(2, 0, 1, -1), -2);
        due("in place of it", x.change(2, 0, 1, 5), 2);
        due("to itself", x.change(2, 0, 1, 1), 1);
        due("letter 26", x.change(2, 0, 26, 1), -1);
        due("letter -1", x.change(2, 0, -1, 1), -1);
        due("to 26", x.change(2, 0, 1, 26), -1);
        due("to -2", x.change(2, 0, 1, -2), -1);
        due("not used", x.change(3, 0, 0, 1), -1);
        due("no unit", x.change(4, 0, 0, 1), -1);
        due("unit -1", x.change(-1, 0, 0, 1), -1);
        due("no trait", x.change(2, 2, 0, 1), -1);
        due("trait -1", x.change(2, -1, 0, 1), -1);
        due("the other trait", x.change(2, 1, 0, 25), 1);
        due("which is the first", x.becomes(2, 0, 0), 25);
        for (int n = 2; n <= 6; n++) {
            due("changes", x.change(2, 0, 10 + n, -1), n);
        }
        due("a 7th", x.change(2, 0, 20, 1), -3);
        due("a 7th that is so", x.change(2, 0, 20, 20), -2);
        due("one of 6", x.change(2, 0, 12, 0), 6);
        due("back", x.change(2, 0, 12, 12), 5);
        due("a 6th", x.change(2, 0, 20, 1), 6);
    }

    private static void undo() {
        TraitLines x = told("type A:a=0");
        for (int n = 1; n <= 12; n++) {
            due("give", x.give(0, 0, n), 1);
            due("refused", x.give(0, 0, n), -2);
            due("acts", x.count(7), Math.min(n, 10));
        }
        for (int n = 9; n >= 0; n--) {
            due("undo", x.undo(), n);
            due("as it was", x.send(0, 0, 1), n + 2);
        }
        due("none can", x.undo(), -1);
        due("as it was", x.send(0, 0, 1), 2);
        due("give", x.give(0, 0, 50), 1);
        due("give", x.give(0, 0, 51), 1);
        due("undo", x.undo(), 1);
        due("give", x.give(0, 0, 52), 1);
        due("undo", x.undo(), 1);
        due("undo", x.undo(), 0);
        due("as it was", x.send(0, 0, 1), 2);
    }

    private static void undoOfEachAct() {
        TraitLines x = told("trait S:a=1;trait T:b=2;type A;type B;type C of A B uses S(a>b):c=3+c d?");
        String before = picture(x);
        due("join", x.join(3, 2), 1);
        due("leave", x.leave(4, 2), 1);
        due("join", x.join(4, 2), 2);
        due("turn", x.turn(4), 2);
        due("give", x.give(4, 2, 4), 1);
        due("need", x.need(4, 2), 1);
        due("take", x.take(4, 3), 1);
        due("use", x.use(4, 1), 2);
        due("change", x.change(4, 0, 0, -1), 1);
        due("change", x.change(4, 1, 1, 0), 1);
        for (int n = 9; n >= 0; n--) {
            due("undo", x.undo(), n);
        }
        unchanged(x, before);
    }

    private static void shelves() {
        TraitLines x = new TraitLines();
        due("keep(-1)", x.keep(-1), -1);
        due("keep(2)", x.keep(2), -1);
        due("back(-1)", x.back(-1), -1);
        due("back(2)", x.back(2), -1);
        due("back(0)", x.back(0), -2);
        due("keep nothing", x.keep(0), 0);
        due("shelves", x.count(9), 1);
        due("back(0)", x.back(0), 0);
        due("back(1)", x.back(1), -2);
        tellText(x, "trait T:a=1;type A uses T(a>b)");
        due("give", x.give(1, 0, 7), 0);
        due("keep(1)", x.keep(1), 2);
        due("shelves", x.count(9), 3);
        due("keep is no act, and forgets none", x.count(7), 1);
        due("give", x.give(1, 0, 8), 1);
        due("change", x.change(1, 0, 0, -1), 1);
        feedText(x, "type");
        due("back(1)", x.back(1), 2);
        due("as it was kept", x.send(1, 0, 1), 7);
        due("as it was kept", x.becomes(1, 0, 0), 1);
        due("nothing can be undone", x.undo(), -1);
        due("the tape stays", x.count(8), 4);
        due("give", x.give(1, 0, 9), 1);
        due("the shelf does not change along", x.back(1), 2);
        due("as it was kept", x.send(1, 0, 1), 7);
        due("back(0)", x.back(0), 0);
        due("nothing", x.count(0), 0);
        due("keep(1)", x.keep(1), 0);
        due("in place of it", x.back(1), 0);
    }
}
