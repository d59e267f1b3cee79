/** Promises 28 to 34: send, chain, lacks, answers, alike, origins, mean. */
public final class SendTest extends HelperCheck {
    public static void main(String[] args) {
        well();
        superKeepsTheCalledName();
        endings();
        limits();
        wrongArguments();
        chains();
        lacking();
        alike();
        origins();
        means();
        finish("SendTest");
    }

    private static void well() {
        TraitLines x = told("type O:a=1 b=a;type A of O:a=10+super;type B of O:a=100+super;type Z of A B:c=b+a+999");
        sendIs(x, 3, 'a', 0, 111, 3, 2, 1, -1);
        sendIs(x, 3, 'b', 0, 111, 4, 3, 0, -1);
        sendIs(x, 3, 'c', 0, 1221, 8, 4, 3, -1);
        sendIs(x, 0, 'b', 0, 1, 2, 1, 0, -1);
    }

    private static void superKeepsTheCalledName() {
        // the body is told under a, called as b: super is b, and the terms are as told
        TraitLines x = told("trait T:a=super+c;type O:a=1 b=20 c=300;type A of O uses T(a>b)");
        sendIs(x, 2, 'b', 0, 320, 3, 1, 2, -1);
        sendIs(x, 2, 'a', 0, 1, 1, 0, 1, -1);
        due("origins", x.origins(2, 1), bits(0, 1));
        // super once more: behind the type where it was found, not behind the receiver
        x = told("type A:a=1;type B of A:a=2+super;type C of B;type D of C:a=super+super");
        sendIs(x, 3, 'a', 0, 6, 5, 2, 3, -1);
        sendIs(x, 2, 'a', 0, 3, 2, 1, 1, -1);
    }

    private static void endings() {
        TraitLines x = told("trait S:a=1;trait T:a=2;type A uses S T:b=a c=1+d e? f=super;type B of A:a=5+super d? e=super f=e");
        sendIs(x, 2, 'a', 3, 0, 1, 0, -1, 0);
        sendIs(x, 2, 'b', 3, 0, 2, 1, 2, 1);
        sendIs(x, 2, 'c', 1, 0, 2, 1, 2, 1);
        sendIs(x, 2, 'e', 2, 0, 1, 0, -1, 0);
        sendIs(x, 2, 'f', 1, 0, 2, 1, 2, 1);
        sendIs(x, 3, 'a', 3, 0, 2, 1, 3, 1);
        sendIs(x, 3, 'b', 3, 0, 3, 2, 2, 2);
        sendIs(x, 3, 'c', 2, 0, 2, 1, 2, 1);
        sendIs(x, 3, 'd', 2, 0, 1, 0, -1, 0);
        sendIs(x, 3, 'e', 2, 0, 2, 1, 3, 1);
        sendIs(x, 3, 'f', 2, 0, 3, 2, 3, 2);
    }

    private static void limits() {
        TraitLines x = told("type A:a=a");
        sendIs(x, 0, 'a', 5, 0, 16, 15, 0, 16);
        // b is called 4 times by a, each calls c 4 times, each d 4 times: 1 4 16 64
        x = told("type A:a=b+b+b+b b=c+c+c+c c=d+d+d+d d=1");
        sendIs(x, 0, 'a', 0, 64, 85, 3, 0, -1);
        // f takes 11 calls, g 5, i 2: 1 + 85 + 11 + 1 + 2 are just 100
        x = told("type A:a=b+b+b+b b=c+c+c+c c=d+d+d+d d=1;type B of A:f=g+g g=d+d+d+d h=a+f+d+i i=d j=a+f+i+i k=a+f+d+d l=a+a");
        sendIs(x, 1, 'f', 0, 8, 11, 2, 1, -1);
        sendIs(x, 1, 'k', 0, 74, 99, 4, 1, -1);
        sendIs(x, 1, 'h', 0, 74, 100, 4, 1, -1);
        sendIs(x, 1, 'j', 5, 0, 100, 4, 1, 2);
        sendIs(x, 1, 'l', 5, 0, 100, 4, 1, 4);
        // depth 15 is done, 16 is not
        x = told("type A:a=b b=c c=d d=e e=f f=g g=h h=1;type B of A:a=super h=i i=j j=k k=l l=m m=n n=o;type C of B:o=p p=1;type D of B:o=p p=q q=1");
        sendIs(x, 2, 'b', 0, 1, 15, 14, 0, -1);
        sendIs(x, 2, 'a', 5, 0, 16, 15, 1, 16);
        sendIs(x, 3, 'b', 0, 1, 16, 15, 0, -1);
        // what does not end well ends all, at the depth where it was
        x = told("type A:a=1+b+1+z b=c+1 c=1+y+a");
        sendIs(x, 0, 'a', 1, 0, 4, 3, 0, 3);
        sendIs(x, 0, 'b', 1, 0, 3, 2, 0, 2);
    }

    private static void wrongArguments() {
        TraitLines x = told("type A:a=1;trait T:a=1");
        int none = NO_ANSWER;
        due("what 6", x.send(0, 0, 6), none);
        due("what -1", x.send(0, 0, -1), none);
        due("letter 26", x.send(0, 26, 0), none);
        due("letter -1", x.send(0, -1, 0), none);
        due("a trait", x.send(1, 0, 0), none);
        due("type 2", x.send(2, 0, 0), none);
        due("type -1", x.send(-1, 0, 0), none);
        due("chain of a trait", x.chain(1, 0, -1), -1);
        due("chain of type 2", x.chain(2, 0, -1), -1);
        due("chain of letter 26", x.chain(0, 26, -1), -1);
        due("chain of letter -1", x.chain(0, -1, -1), -1);
        due("chain below NONE", x.chain(0, 0, -2), -1);
        due("lacks of a trait", x.lacks(1), -1);
        due("lacks(2)", x.lacks(2), -1);
        due("answers of a trait", x.answers(1), -1);
        due("answers(-1)", x.answers(-1), -1);
        due("alike with a trait", x.alike(0, 1), -1);
        due("alike of a trait", x.alike(1, 0), -1);
        due("alike(0, 2)", x.alike(0, 2), -1);
        due("alike(-1, 0)", x.alike(-1, 0), -1);
        due("origins of a trait", x.origins(1, 0), -1);
        due("origins of letter 26", x.origins(0, 26), -1);
        due("origins of letter -1", x.origins(0, -1), -1);
        due("origins(2, 0)", x.origins(2, 0), -1);
        due("mean of a trait", x.mean(1), Double.doubleToLongBits(Double.NaN));
        due("mean(2)", x.mean(2), Double.doubleToLongBits(Double.NaN));
    }

    private static void chains() {
        TraitLines x = told("trait S:a=1;trait T:a=2;type O uses S;type A of O:a?;type B of O uses S T;type Z of A B:a=super;type Y of O A");
        due("how many", x.chain(5, 0, -1), 2);
        due("the first", x.chain(5, 0, 0), 5);
        due("the second", x.chain(5, 0, 1), 2);
        due("no third", x.chain(5, 0, 2), -2);
        due("none of b", x.chain(5, 1, -1), 0);
        due("none of b", x.chain(5, 1, 0), -2);
        due("no line", x.chain(6, 0, -1), -1);
        due("no line", x.chain(6, 0, 0), -1);
    }

    private static void lacking() {
        TraitLines x = told("trait S:a=1;trait T:a=2;type O:a?b?c?d?;type A of O:b=1;type B of O uses S T;type Z of A B:c?e?;type Y of O A:z?");
        due("lacks(2)", x.lacks(2), bits(0, 1, 2, 3));
        due("lacks(3)", x.lacks(3), bits(0, 2, 3));
        due("lacks(4)", x.lacks(4), bits(1, 2, 3));
        due("lacks(5)", x.lacks(5), bits(2, 3, 4));
        due("no line", x.lacks(6), -1);
        due("answers(5)", x.answers(5), bits(1));
        due("answers without a line", x.answers(6), 0);
        sendIs(x, 6, 'a', 4, 0, 0, -1, -1, -1);
        due("origins without a line", x.origins(6, 0), 0);
        due("mean without a line", x.mean(6), Double.doubleToLongBits(Double.NaN));
        sendIs(x, 5, 'a', 3, 0, 1, 0, -1, 0);
        sendIs(x, 5, 'c', 2, 0, 1, 0, -1, 0);
        sendIs(x, 5, 'x', 1, 0, 1, 0, -1, 0);
        // super looks at what is behind alone
        x = told("type A;type B of A:a?;type C of B:a=super;type D of A:a=super;type E of D:a?;type F of B:b=c;type G of F:c?");
        sendIs(x, 2, 'a', 2, 0, 2, 1, 2, 1);
        sendIs(x, 3, 'a', 1, 0, 2, 1, 3, 1);
        sendIs(x, 4, 'a', 1, 0, 2, 1, 3, 1);
        sendIs(x, 5, 'b', 1, 0, 2, 1, 5, 1);
        sendIs(x, 6, 'b', 2, 0, 2, 1, 5, 1);
    }

    private static void alike() {
        TraitLines x = told("type A:a=3;type B:a=b b=3;type C:a=1+2;type D:a=3 b?;type E:a=3 b=c;type O;type P of O;type Q of O P;type R of O P:z=1");
        due("the same value", x.alike(0, 2), 1);
        due("b ends otherwise", x.alike(0, 1), 0);
        due("1 is not 2", x.alike(0, 3), 0);
        due("nobody either way", x.alike(0, 4), 1);
        due("alike(4, 0)", x.alike(4, 0), 1);
        due("itself", x.alike(1, 1), 1);
        due("both without a line", x.alike(7, 8), 1);
        due("one without a line", x.alike(5, 7), 0);
        due("both empty", x.alike(5, 6), 1);
        due("give", x.give(2, 0, 4), 1);
        due("another value", x.alike(0, 2), 0);
        due("answers", told("type A:a=1 b=z c=1 d=d y=c z=a").answers(0), bits(0, 1, 2, 24, 25));
        due("give", x.give(1, 25, 4), 0);
        due("answers, asked first behind an act", x.answers(1), bits(0, 1, 25));
    }

    private static void origins() {
        TraitLines x = told("trait T:a=b;trait U:b=c;type O:d=1;type A of O uses T U:c=super+d;type B of O uses T U:c=d+a;type C of A");
        due("till it ends", x.origins(3, 0), bits(0, 1, 3));
        due("all round", x.origins(4, 0), bits(0, 1, 2, 4));
        due("of d", x.origins(5, 3), bits(2));
        due("of c", x.origins(5, 2), bits(3));
        due("of z", x.origins(5, 25), 0);
    }

    private static void means() {
        TraitLines x = told("type A:a=b+b+b b=1 c=z d=a+a+a+b;type B of A:e=1 f=1 g=1 h=1;type C;type D:a=b+b b=1 c=a");
        due("mean(0)", x.mean(0), Double.doubleToLongBits(19.0 / 3.0));
        due("mean(1)", x.mean(1), Double.doubleToLongBits(23.0 / 7.0));
        due("mean(2)", x.mean(2), Double.doubleToLongBits(Double.NaN));
        due("mean(3)", x.mean(3), Double.doubleToLongBits(8.0 / 3.0));
        due("mean(4)", x.mean(4), Double.doubleToLongBits(Double.NaN));
        due("mean(-1)", x.mean(-1), Double.doubleToLongBits(Double.NaN));
        x = told("type A:a=1;type B:a=1 b=a+a");
        due("just 1", x.mean(0), Double.doubleToLongBits(1.0));
        due("just 2", x.mean(1), Double.doubleToLongBits(2.0));
        manyMeans();
    }

    /** a takes 1 call, b to h 2, 3, 4, 5, 6, 11, 21: all sets of these with a. */
    private static void manyMeans() {
        int[] calls = {1, 2, 3, 4, 5, 6, 11, 21};
        for (int set = 1; set < 256; set += 2) {
            TraitLines x = told("type Z:a=1 b=a c=a+a d=a+a+a e=a+a+a+a f=e g=e+e h=e+e+e+e");
            int sum = 0;
            for (int member = 7; member > 0; member--) {
                boolean stays = (set >> member & 1) != 0 || member == 4 && set >= 32;
                if (!stays) {
                    x.take(0, member);
                }
                sum += stays ? calls[member] : 0;
            }
            int members = Integer.bitCount(x.answers(0));
            due("mean of set " + set, x.mean(0), Double.doubleToLongBits((double) (sum + 1) / (double) members));
        }
    }
}
