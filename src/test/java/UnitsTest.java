/** Promises 16 to 21, 35 and 36: what is told, FLAT, find, count. */
public final class UnitsTest extends HelperCheck {
    public static void main(String[] args) {
        told();
        bodies();
        flatOwn();
        flatConflicts();
        flatOneSource();
        flatOrderOfSources();
        find();
        counts();
        finish("UnitsTest");
    }

    private static void told() {
        TraitLines x = told("trait Z:a=1 b? z=2;trait Q uses Z(-a b>c);type M:m?;type N of M uses Q Z(z>y):c=1 d?");
        int[][] due = {
            {1, 25, 0, 0, bits(0, 1, 25), bits(1), bits(0, 1, 25), bits(0, 25), bits(1), 0, -1},
            {1, 16, 0, 1, 0, 0, bits(2, 25), bits(25), bits(2), 0, -1},
            {0, 12, 0, 0, bits(12), bits(12), bits(12), 0, bits(12), 0, -1},
            {0, 13, 1, 2, bits(2, 3), bits(3), bits(0, 1, 2, 3, 24, 25), bits(0, 2, 24, 25), bits(1, 3), 0, -1},
        };
        for (int unit = 0; unit < 4; unit++) {
            for (int what = 0; what <= 10; what++) {
                due("unit(" + unit + ", " + what + ")", x.unit(unit, what), due[unit][what]);
            }
        }
        due("unit(4, 0)", x.unit(4, 0), -1);
        due("unit(-1, 0)", x.unit(-1, 0), -1);
        due("unit(0, -1)", x.unit(0, -1), -1);
        due("parent(3, 0)", x.parent(3, 0), 2);
        due("parent(3, 1)", x.parent(3, 1), -1);
        due("parent(3, -1)", x.parent(3, -1), -1);
        due("parent of a trait", x.parent(0, 0), -1);
        due("parent(4, 0)", x.parent(4, 0), -1);
        due("used(3, 0)", x.used(3, 0), 1);
        due("used(3, 1)", x.used(3, 1), 0);
        due("used(3, 2)", x.used(3, 2), -1);
        due("used(3, -1)", x.used(3, -1), -1);
        due("used(1, 0)", x.used(1, 0), 0);
        due("used(4, 0)", x.used(4, 0), -1);
        due("becomes(1, 0, 0)", x.becomes(1, 0, 0), -2);
        due("becomes(1, 0, 1)", x.becomes(1, 0, 1), 2);
        due("becomes(1, 0, 7), which it has not", x.becomes(1, 0, 7), 7);
        due("becomes(3, 1, 25)", x.becomes(3, 1, 25), 24);
        due("becomes(3, 0, 25)", x.becomes(3, 0, 25), 25);
        due("becomes(3, 2, 0)", x.becomes(3, 2, 0), -1);
        due("becomes(3, -1, 0)", x.becomes(3, -1, 0), -1);
        due("becomes(3, 0, 26)", x.becomes(3, 0, 26), -1);
        due("becomes(3, 0, -1)", x.becomes(3, 0, -1), -1);
        due("becomes(4, 0, 0)", x.becomes(4, 0, 0), -1);
        due("becomes(0, 0, 0)", x.becomes(0, 0, 0), -1);
    }

    private static void bodies() {
        TraitLines x = told("type A:a=0+999+super+z b? c=a");
        int[] terms = {0, 999, 1000, 1026, -2};
        for (int k = 0; k < 5; k++) {
            due("body(0, 0, " + k + ")", x.body(0, 0, k), terms[k]);
        }
        due("how many", x.body(0, 0, -1), 4);
        due("below NONE", x.body(0, 0, -2), -1);
        due("far beyond", x.body(0, 0, Integer.MAX_VALUE), -2);
        due("required", x.body(0, 1, -1), 0);
        due("required", x.body(0, 1, 0), -2);
        due("one term", x.body(0, 2, -1), 1);
        due("a member", x.body(0, 2, 0), 1001);
        due("one term alone", x.body(0, 2, 1), -2);
        due("no own member", x.body(0, 3, -1), -1);
        due("letter 26", x.body(0, 26, -1), -1);
        due("letter -1", x.body(0, -1, -1), -1);
        due("unit 1", x.body(1, 0, -1), -1);
        due("unit -1", x.body(-1, 0, -1), -1);
    }

    private static void flatOwn() {
        TraitLines x = told("trait T:a=1 b=2 c?;trait U uses T(a>d):b? c=3;type A uses U:d?e?");
        flatIs(x, 1, 'a', -1, -1, -1, -1, -1);
        flatIs(x, 1, 'b', 1, 0, 1, -2, -2);
        flatIs(x, 1, 'c', 1, 1, 2, -2, -2);
        flatIs(x, 1, 'd', 1, 0, 0, -2, -2);
        flatIs(x, 2, 'd', 1, 0, 0, -2, -2);
        flatIs(x, 2, 'e', 2, -2, -2, -2, -2);
        due("what 5", x.flat(2, 4, 5), -1);
        due("what -1", x.flat(2, 4, -1), -1);
        due("letter 26", x.flat(2, 26, 0), -1);
        due("letter -1", x.flat(2, -1, 0), -1);
        due("unit 3", x.flat(3, 0, 0), -1);
        due("unit -1", x.flat(-1, 0, 0), -1);
    }

    private static void flatConflicts() {
        TraitLines x = told("trait S:a=1;trait T:a=1;trait U uses S T;type A uses U(a>b):a?b?;type B uses U:a=3;"
            + "type C uses S(a>z)T(a>z):z?;trait V:b?;type D uses V U(a>b)");
        flatIs(x, 2, 'a', 3, 0, 0, 1, 0);
        flatIs(x, 3, 'b', 3, 0, 0, 1, 0);
        flatIs(x, 3, 'a', 2, -2, -2, -2, -2);
        flatIs(x, 4, 'a', 1, 4, 0, -2, -2);
        flatIs(x, 5, 'z', 3, 0, 0, 1, 0);
        flatIs(x, 7, 'b', 3, 0, 0, 1, 0);
        due("conflicts of all units", x.count(6), 4);
        due("in conflict", x.unit(2, 9), 1);
        due("in conflict", x.unit(5, 9), 1 << 25);
        // two letters of one trait under one letter
        x = told("trait T:a=1 b=2;type A uses T(b>a);type B uses T(a>b);type C uses T(a>c b>c)");
        flatIs(x, 1, 'a', 3, 0, 0, 0, 1);
        flatIs(x, 2, 'b', 3, 0, 0, 0, 1);
        flatIs(x, 3, 'c', 3, 0, 0, 0, 1);
    }

    private static void flatOneSource() {
        TraitLines x = told("trait T:a=1;trait U uses T;trait V uses T(a>b);type A uses U V(b>a)T;type B uses U V(b>a):a?");
        flatIs(x, 3, 'a', 1, 0, 0, -2, -2);
        flatIs(x, 4, 'a', 1, 0, 0, -2, -2);
        // under another letter it is another one
        x = told("trait T:a=1 b=1;trait U uses T(-a);type A uses T(-b)U(b>a)");
        flatIs(x, 2, 'a', 3, 0, 0, 0, 1);
    }

    private static void flatOrderOfSources() {
        TraitLines x = told("trait P:a=1;trait Q:a=2;trait R:a=3;trait S uses Q R;trait T uses P Q;"
            + "type A uses T S;type B uses S T;type C uses Q S;type D uses R S;type E uses P S");
        flatIs(x, 5, 'a', 3, 0, 0, 1, 0);
        flatIs(x, 6, 'a', 3, 1, 0, 2, 0);
        flatIs(x, 7, 'a', 3, 1, 0, 2, 0);
        flatIs(x, 8, 'a', 3, 2, 0, 1, 0);
        flatIs(x, 9, 'a', 3, 0, 0, 1, 0);
    }

    private static void find() {
        TraitLines x = told("type Z;trait A;type M");
        due("find(25)", x.find(25), 0);
        due("find(0)", x.find(0), 1);
        due("find(12)", x.find(12), 2);
        due("find(1)", x.find(1), -1);
        due("find(-1)", x.find(-1), -1);
        due("find(26)", x.find(26), -1);
        tellText(x, "type M");
        due("find(12)", x.find(12), 0);
        due("find(25) of an older world", x.find(25), -1);
    }

    private static void counts() {
        TraitLines x = told("trait S:a=1;trait T:a=2 n?;type A;type B of A;type C of A B;type D of C;type E of B uses T;type F uses S T(-n):b=1;"
            + "type G of F:a=1;type H of E:n=1");
        int[] due = {10, 8, 2, bits(4, 5), bits(2, 3, 9), 4, 1, 0, 0, 0, bits(5, 8, 9), -1};
        for (int what = 0; what < due.length; what++) {
            due("count(" + what + ")", x.count(what), due[what]);
        }
        due("count(-1)", x.count(-1), -1);
        due("count(MIN)", x.count(Integer.MIN_VALUE), -1);
        due("leave", x.leave(9, 6), 0);
        due("lowest", x.count(10), bits(5, 6, 8, 9));
        due("acts", x.count(7), 1);
        due("keep", x.keep(1), 10);
        due("shelves", x.count(9), 2);
        due("feed", x.feed(0, 0, 0, 0, 0), 20);
        due("bytes", x.count(8), 20);
    }
}
