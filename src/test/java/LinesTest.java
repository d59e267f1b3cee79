/** Promises 22 to 27: lines, rings, over, orders. */
public final class LinesTest extends HelperCheck {
    public static void main(String[] args) {
        lines();
        rings();
        longRing();
        ringBehindPath();
        over();
        orders();
        noOrders();
        manyOrders();
        fullWorld();
        finish("LinesTest");
    }

    private static void lines() {
        // the well known one: K1 of A B C, K2 of D B E, K3 of D A, Z of K1 K2 K3
        TraitLines x = told("type O;type A of O;type B of O;type C of O;type D of O;type E of O;"
            + "type K of A B C;type L of D B E;type M of D A;type Z of K L M;trait T");
        lineIs(x, 0, 0);
        lineIs(x, 1, 1, 0);
        lineIs(x, 6, 6, 1, 2, 3, 0);
        lineIs(x, 9, 9, 6, 7, 8, 4, 1, 2, 3, 5, 0);
        due("line of a trait", x.line(10, 0), -1);
        due("line(11, 0)", x.line(11, 0), -1);
        due("line(-1, 0)", x.line(-1, 0), -1);
        ringIs(x, 9);
        due("ring of a trait", x.ring(10, -1), -1);
        due("ring(11, 0)", x.ring(11, 0), -1);
        due("longest", x.count(5), 10);
        due("turn", x.turn(9), 3);
        lineIs(x, 9, 9, 8, 7, 4, 6, 1, 2, 5, 3, 0);
        due("undo", x.undo(), 0);
        lineIs(x, 9, 9, 6, 7, 8, 4, 1, 2, 3, 5, 0);
    }

    private static void rings() {
        TraitLines x = told("type A;type B;type X of A B;type Y of B A;type Z of X Y;type W of Z A");
        lineIs(x, 4);
        ringIs(x, 4, 0, 1);
        lineIs(x, 5);
        ringIs(x, 5);
        due("lines without", x.count(3), bits(4, 5));
        due("turn", x.turn(3), 2);
        lineIs(x, 4, 4, 2, 3, 0, 1);
        ringIs(x, 4);
        // W of Z A: A comes behind all of the line of Z
        lineIs(x, 5, 5, 4, 2, 3, 0, 1);
        due("turn", x.turn(5), 2);
        ringIs(x, 5, 0, 4);
    }

    private static void longRing() {
        // A ahead of B, B ahead of C, C ahead of A
        TraitLines x = told("type A;type B;type C;type P of A B;type Q of B C;type R of C A;type Z of P Q R");
        ringIs(x, 6, 0, 2, 1);
    }

    private static void ringBehindPath() {
        // A stands behind B alone, which is in the ring of B and C: A is not in it
        TraitLines x = told("type A;type B;type C;type D of A;type P of B A;type Q of B C;type R of C B;type Z of D P Q R");
        // rows left: A | B A | B C | C B
        ringIs(x, 7, 1, 2);
    }

    private static void over() {
        TraitLines x = told("type A;trait T;type B of A;type C of A;type D of B C;type E");
        due("over(0)", x.over(0), 1);
        due("over(2)", x.over(2), bits(0, 2));
        due("over(4)", x.over(4), bits(0, 2, 3, 4));
        due("over(5)", x.over(5), bits(5));
        due("over(1)", x.over(1), -1);
        due("over(6)", x.over(6), -1);
        due("over(-1)", x.over(-1), -1);
    }

    private static void orders() {
        TraitLines x = told("type A;type B;type C;type X of C A;type Y of B;type Z of X Y;trait T");
        // Z X ahead of Y, C ahead of A, both behind X; B behind Y: Z X and the ways to mix C A with Y B
        due("orders(5)", x.orders(5), 6);
        int[] first = {5, 3, 2, 0, 4, 1};
        for (int k = 0; k < 6; k++) {
            due("first(5, " + k + ")", x.first(5, k), first[k]);
        }
        due("first(5, 6)", x.first(5, 6), -1);
        due("first(5, -1)", x.first(5, -1), -1);
        due("first(6, 0)", x.first(6, 0), -1);
        due("first(7, 0)", x.first(7, 0), -1);
        due("orders(6)", x.orders(6), -1);
        due("orders(7)", x.orders(7), -1);
        due("orders(-1)", x.orders(-1), -1);
        due("orders(0)", x.orders(0), 1);
        due("place(5, 5)", x.place(5, 5), bits(0));
        due("place(5, 3)", x.place(5, 3), bits(1));
        due("place(5, 2)", x.place(5, 2), bits(2, 3, 4));
        due("place(5, 0)", x.place(5, 0), bits(3, 4, 5));
        due("place(5, 4)", x.place(5, 4), bits(2, 3, 4));
        due("place(5, 1)", x.place(5, 1), bits(3, 4, 5));
        due("place(3, 4)", x.place(3, 4), -1);
        due("place(3, 5)", x.place(3, 5), -1);
        due("place(5, 6)", x.place(5, 6), -1);
        due("place(6, 6)", x.place(6, 6), -1);
        due("place(5, 7)", x.place(5, 7), -1);
        due("place(-1, 5)", x.place(-1, 5), -1);
        due("place(5, -1)", x.place(5, -1), -1);
    }

    private static void noOrders() {
        TraitLines x = told("type A;type B;type X of A B;type Y of B A;type Z of X Y");
        due("orders(4)", x.orders(4), 0);
        due("first(4, 0)", x.first(4, 0), -1);
        due("place(4, 4)", x.place(4, 4), 0);
        due("place(4, 0)", x.place(4, 0), 0);
        due("orders(2)", x.orders(2), 1);
        // no line, yet orders: the lines of the parents tell more than the orders keep
        x = told("type A;type B;type X of A;type Y of B;type P of X Y;type Q of Y X;type V of B A;type Z of P V");
        due("line(4, 1)", x.line(4, 1), 2);
        due("line(7, -1)", x.line(7, -1), 0);
        due("orders(7)", x.orders(7) > 0 ? 1 : 0, 1);
        due("first(7, 0)", x.first(7, 0), 7);
    }

    private static void manyOrders() {
        TraitLines x = told("type E;type F;type G;type H;type A of E;type B of F;type C of G;type D of H;type Z of A B C D");
        // A B C D in order and E F G H each behind its own: 1 3 5 7 places
        due("orders(8)", x.orders(8), 105);
        x = told("type E;type F;type G;type H;type I;type J;type K;type A of E;type B of F G;type C of H I J;type D of K;type Z of A B C D");
        due("first(11, 2)", x.first(11, 2), 0);
        due("place(11, 0)", x.place(11, 0), bits(2, 3, 4, 5, 6, 7, 8, 9, 10, 11));
        // a tree: 12! by the sizes of all that stands behind each one
        due("orders(11)", x.orders(11), 2800);
        due("leave", x.leave(11, 7), 3);
        due("place, asked first behind an act", x.place(11, 0), -1);
        due("undo", x.undo(), 0);
        due("place, asked first behind undo", x.place(11, 7), bits(1));
        due("first(11, 11)", x.first(11, 11), 6);
        due("first(11, 12)", x.first(11, 12), -1);
    }

    /** Twelve types in one line: all rows are full. */
    private static void fullWorld() {
        TraitLines x = told(LADDER);
        lineIs(x, 11, 11, 10, 9, 8, 7, 6, 5, 4, 3, 2, 1, 0);
        due("over(11)", x.over(11), 4095);
        due("orders(11)", x.orders(11), 1);
        due("first(11, 11)", x.first(11, 11), 0);
        due("place(11, 0)", x.place(11, 0), bits(11));
        int[] counts = {12, 12, 0, 0, 4095, 12, 0, 0, 0, 0, 2048};
        for (int what = 0; what < counts.length; what++) {
            due("count(" + what + ") of a full world", x.count(what), counts[what]);
        }
        due("find", x.find(25), -1);
        due("join", x.join(11, 0), 2);
        due("join", x.join(11, 1), 3);
        ringIs(x, 11, 1, 0);
        due("leave", x.leave(11, 0), 2);
        due("join", x.join(11, 0), 3);
        lineIs(x, 11, 11, 10, 9, 8, 7, 6, 5, 4, 3, 2, 1, 0);
        due("keep", x.keep(0), 12);
        due("back", x.back(0), 12);
        lineIs(x, 11, 11, 10, 9, 8, 7, 6, 5, 4, 3, 2, 1, 0);
    }
}
