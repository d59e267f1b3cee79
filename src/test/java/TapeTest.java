/** Promises 1 to 4: a new object, feed, end, tell with every kind of fault. */
public final class TapeTest extends HelperCheck {
    public static void main(String[] args) {
        newObject();
        tape();
        texts();
        faultsOfUnits();
        faultsOfParents();
        faultsOfUses();
        faultsOfChanges();
        faultsOfMembers();
        faultsOfTerms();
        faultsChangeNothing();
        finish("TapeTest");
    }

    private static void newObject() {
        TraitLines x = new TraitLines();
        for (int what = 0; what <= 10; what++) {
            due("count of a new object", x.count(what), 0);
        }
        due("NONE", TraitLines.NONE, -1);
        due("undo of a new object", x.undo(), -1);
        due("back of a new object", x.back(1), -2);
        due("tell of an empty tape", x.tell(), 0);
    }

    private static void tape() {
        TraitLines x = new TraitLines();
        due("end(0)", x.end(0), 0);
        due("end(1) of an empty tape", x.end(1), -1);
        for (int n = 20; n <= 400; n += 20) {
            due("feed", x.feed(0x20202020, 0x20202020, 0x20202020, 0x20202020, 0x20202020), n);
        }
        due("feed beyond", x.feed(1, 2, 3, 4, 5), -1);
        due("count(8)", x.count(8), 400);
        due("end(401)", x.end(401), -1);
        due("end(-1)", x.end(-1), -1);
        due("end(MIN)", x.end(Integer.MIN_VALUE), -1);
        due("end(MAX)", x.end(Integer.MAX_VALUE), -1);
        due("end(400)", x.end(400), 400);
        due("end(381)", x.end(381), 381);
        due("feed would have 401", x.feed(0, 0, 0, 0, 0), -1);
        due("count(8)", x.count(8), 381);
        due("end(380)", x.end(380), 380);
        due("feed to 400", x.feed(0x74797065, 0x20412020, 0x20202020, 0x20202020, 0x20202020), 400);
        due("tell of 400 bytes", x.tell(), 1);
        due("count(8)", x.count(8), 0);
        // the highest byte of each number comes first
        due("feed", x.feed(0x74726169, 0x74205A3A, 0x613D3939, 0x392B623F, -1), 20);
        due("a byte 255", x.end(17), 17);
        due("tell", x.tell(), -2 - (8 * 15 + 1));
    }

    private static void texts() {
        good("", 0);
        good("   ", 0);
        good("type A", 1);
        good("  type  A  ", 1);
        good("typeA;traitB;typeCofAusesB:a?b=1c=super+a+999+000000", 3);
        good("trait T:a?;type A uses T(-a b>b c>a)", 2);
        good("type A:a=1b=a+b+c+d c?d=super", 1);
        good("type A:a=000000000000000000000999", 1);
        good("type A;type B;type C;type D;type E of D B C A", 5);
        good("trait A;trait B;trait C;trait D;trait E uses D(-a)B C(a>b)A(-z)", 5);
        good("trait T;type A uses T(-z -b -c -d -e a>a)", 2);
        good("type A;type B;type C;type D;type E;type F;type G;type H;type I;type J;type K;type L", 12);
        good("type A:a?b?c?d?e?f?g?h?", 1);
        good("type A:a=" + " ".repeat(390) + "b", 1);
        good("type A:a=" + "0".repeat(388) + "999", 1);
        good("type Z:z=z+0+9 y=999", 1);
    }

    private static void faultsOfUnits() {
        fault("^;", 1);
        fault("^typ A", 1);
        fault("^types A", 1);
        fault("^Type A", 1);
        fault("^1", 1);
        fault("  ^x", 1);
        fault("^\ttype A", 1);
        fault("type^", 1);
        fault("type  ^", 1);
        fault("type ^a", 1);
        fault("type ^1", 1);
        fault("type ^;", 1);
        fault("type A^B", 1);
        fault("type A ^x", 1);
        fault("type A ^ofx B", 1);
        fault("type A ^type B", 1);
        fault("type A;^", 1);
        fault("type A;  ^", 1);
        fault("type A;^;", 1);
        fault("type A;type ^A", 2);
        fault("type A;trait ^A of", 2);
        fault("trait A ^of B", 1);
        fault("type A^(", 1);
        fault("type A^\u00ff", 1);
        fault("type A^\u0000", 1);
        String twelve = "type A;type B;type C;type D;type E;type F;type G;type H;type I;type J;type K;type L";
        fault(twelve + ";^type M", 3);
        fault(twelve + "; ^trait A", 3);
        fault(twelve + ";^typo M", 1);
        fault(twelve + ";^", 1);
        fault(twelve + ":^", 1);
    }

    private static void faultsOfParents() {
        fault("type A of^", 1);
        fault("type A of ^uses", 1);
        fault("type A of ^a", 1);
        fault("type A of ^A", 2);
        fault("type A of ^B;type B", 2);
        fault("trait T;type A of ^T", 2);
        fault("type A;type B of A ^A", 2);
        fault("type A;type B of A ^B", 2);
        fault("type A;type B of A^,", 1);
        fault("type A;type B of A ^of A", 1);
        fault("type A;type B of A^(", 1);
        String five = "type A;type B;type C;type D;type E;type F of A B C D ";
        fault(five + "^E", 3);
        fault(five + "^A", 2);
        fault(five + "^X", 2);
        fault(five + "^x", 1);
        good(five + ":a?", 6);
    }

    private static void faultsOfUses() {
        fault("type A uses^", 1);
        fault("type A uses ^:", 1);
        fault("type A uses ^T", 2);
        fault("type A;type B uses ^A", 2);
        fault("trait T uses ^T", 2);
        fault("trait T;type A uses T ^T", 2);
        fault("trait T;type A uses T ^uses T", 1);
        fault("trait T;type ^T", 2);
        fault("trait T;type A uses T ^of A", 1);
        fault("trait T;type A:a? ^uses T", 1);
        String five = "trait A;trait B;trait C;trait D;trait E;trait F uses A B(-a) C D";
        fault(five + "^E", 3);
        fault(five + "^E(", 3);
        fault(five + "^B", 2);
        fault(five + "^F", 2);
        fault(five + "(-a b>c)^E", 3);
        good(five, 6);
    }

    private static void faultsOfChanges() {
        String use = "trait T;type A uses T(";
        fault(use + "^", 1);
        fault(use + "^)", 1);
        fault(use + "^A", 1);
        fault(use + "^ab>c", 1);
        fault(use + "-^", 1);
        fault(use + "-^ab", 1);
        fault(use + "-^-a", 1);
        fault(use + "a^", 1);
        fault(use + "a^)", 1);
        fault(use + "a ^b", 1);
        fault(use + "a>^)", 1);
        fault(use + "a>^bc)", 1);
        fault(use + "a>b^", 1);
        fault(use + "a>b^;", 1);
        fault(use + "a>b^>c", 1);
        fault(use + "a>b ^a>c)", 2);
        fault(use + "a>b ^a", 2);
        fault(use + "a>b -^a)", 2);
        fault(use + "-a ^a>b)", 2);
        fault(use + "a>a -^a)", 2);
        fault(use + "a>a ^a>a)", 2);
        fault(use + "-a)^(", 1);
        fault(use + "-a)^)", 1);
        fault(use + "-a -b -c -d -e -f ^-g)", 3);
        fault(use + "-a -b -c -d -e -f ^-a)", 3);
        fault(use + "-a -b -c -d -e -f ^g>a)", 3);
        fault(use + "-a -b -c -d -e -f ^a>b)", 2);
        fault(use + "-a -b -c -d -e -f ^gg>b)", 1);
        fault(use + "-a -b -c -d -e -f^;", 1);
        fault(use + "a>a b>b c>c d>d e>e f>f ^g>g)", 3);
        good(use + "-a-b-c-d-e-f)", 2);
        good(use + "a>b b>a c>a d>a e>a f>a)", 2);
    }

    private static void faultsOfMembers() {
        fault("type A:^", 1);
        fault("type A: ^;", 1);
        fault("type A:^ab?", 1);
        fault("type A:^A", 1);
        fault("type A:^=", 1);
        fault("type A:a^", 1);
        fault("type A:^zz?", 1);
        fault("type A:^az?", 1);
        fault("type A:a ^b", 1);
        fault("type A:a^+", 1);
        fault("type A:a?^?", 1);
        fault("type A:a? ^:", 1);
        fault("type A:a? ^super", 1);
        fault("type A:a? ^a?", 2);
        fault("type A:a? ^a", 2);
        fault("type A:a=1 ^a=1", 2);
        fault("type A:a? ^1", 1);
        fault("type A:a?b?c?d?e?f?g?h? ^i?", 3);
        fault("type A:a?b?c?d?e?f?g?h? ^a?", 2);
        fault("type A:a?b?c?d?e?f?g?h? ^ij?", 1);
        fault("type A:a?b?c?d?e?f?g?h? ^I", 1);
        fault("trait T:a=1 b=^", 1);
    }

    private static void faultsOfTerms() {
        fault("type A:a=^", 1);
        fault("type A:a= ^;", 1);
        fault("type A:a=^+1", 1);
        fault("type A:a=^sup", 1);
        fault("type A:a=^superb", 1);
        fault("type A:a=^A", 1);
        fault("type A:a=^1000", 2);
        fault("type A:a=^0001000", 2);
        fault("type A:a=^99999999999999999999999999", 2);
        fault("type A:a=^4294967296", 2);
        fault("type A:a=1 ^2", 1);
        fault("type A:a=^-1", 1);
        fault("type A:a=1+^", 1);
        fault("type A:a=1+^?", 1);
        fault("type A:a=b^?", 1);
        fault("type A:a=1+1+1+1+^1", 3);
        fault("type A:a=1+1+1+1+^super", 3);
        fault("type A:a=1+1+1+1+^b", 3);
        fault("type A:a=1+1+1+1+^1000", 2);
        fault("type A:a=1+1+1+1+^bb", 1);
        fault("type A:a=1+1+1+1+^", 1);
        fault("type A:a=1+1+1+1+ ^;", 1);
        good("type A:a=1+1+1+1 b=super+super+super+super", 1);
    }

    private static void faultsChangeNothing() {
        TraitLines x = told("type A:a=1;type B of A");
        due("give", x.give(0, 1, 5), 0);
        due("keep", x.keep(0), 2);
        due("tell of a fault", tellText(x, "type C;type D;type E;type"), -2 - (8 * 25 + 1));
        due("the tape is empty", x.count(8), 0);
        due("units stay", x.count(0), 2);
        due("names stay", x.find(0), 0);
        due("acts stay", x.count(7), 1);
        due("undo", x.undo(), 0);
        due("give", x.give(0, 1, 5), 0);
        due("tell", tellText(x, "trait T"), 1);
        due("nothing can be undone", x.undo(), -1);
        due("a new world", x.unit(0, 0), 1);
        due("nothing of the old one", x.unit(0, 4), 0);
        due("shelves stay", x.count(9), 1);
        due("tell of an empty tape", x.tell(), 0);
        due("nothing is left", x.count(0), 0);
        due("shelves stay", x.back(0), 2);
        due("as it was kept", x.body(0, 1, 0), 5);
        // what two texts leave behind in one place is not mixed
        tellText(x, "trait T:a=1 b=2;type A uses T(a>c -b):d=1");
        tellText(x, "trait T;type A uses T:e=1");
        tellText(x, "trait T:a=1 b=2;type A uses T");
        due("own members", x.unit(1, 4), 0);
        due("a stays", x.becomes(1, 0, 0), 0);
        due("b stays", x.becomes(1, 0, 1), 1);
    }
}
