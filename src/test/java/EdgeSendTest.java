/** Boundary cases of SEND, CHAIN and LACK and of promises 28 to 34, sentence by sentence. */
public final class EdgeSendTest extends HelperCheck {
    private static final long NAN = Double.doubleToLongBits(Double.NaN);
    /** The type W has no line; the trait T tells what no type uses. */
    private static final String KINDS = "trait T:a=1;type A:a=1 b? c=z;type B of A:b=2;type W of A B:a=1";
    /** v takes 100 calls just, and adds 301 numbers: more cannot be; u would take 101. */
    private static final String MOST_CALLS = "type A:s=999+999+999+999 t=s+s+s+s p=t+t+t+t q=p+p+p+p r=s+s+s+999 v=q+t+t+r u=q+t+t+t";

    public static void main(String[] args) throws Exception {
        HelperEdges.run(EdgeSendTest.class, 28, 34);
    }

    /** Members a, b, .. of one type, each calling the next, so many that the last is of that depth. */
    private static String deep(int depth) {
        StringBuilder text = new StringBuilder();
        for (int k = 0; k <= depth; k++) {
            if (k % 8 == 0) {
                char name = (char) ('A' + k / 8);
                text.append(k == 0 ? "type A:" : ";type " + name + " of " + (char) (name - 1) + ":");
            }
            text.append((char) ('a' + k)).append('=').append(k == depth ? "1" : "" + (char) ('b' + k)).append(' ');
        }
        return text.toString();
    }

    // ---- the terms

    @HelperPromise(value = 0, says = "a MEMBER is looked for along the LINE: the first TYPE that has a BODY or a CONFLICT FLAT under that letter")
    static void theFirstType() {
        TraitLines x = told("trait S:a=1;trait T:a=2;type A:a=3;type B of A uses S T;type C of B:a?;type D of C uses T;type E of D:b=1");
        sendIs(x, 2, 'a', 0, 3, 1, 0, 2, -1);
        sendIs(x, 3, 'a', 3, 0, 1, 0, -1, 0);
        sendIs(x, 4, 'a', 3, 0, 1, 0, -1, 0);
        sendIs(x, 5, 'a', 0, 2, 1, 0, 5, -1);
        sendIs(x, 6, 'a', 0, 2, 1, 0, 5, -1);
        sendIs(x, 6, 'b', 0, 1, 1, 0, 6, -1);
        x = told(LADDER);
        due("give", x.give(0, 25, 999), 0);
        sendIs(x, 11, 'z', 0, 999, 1, 0, 0, -1);
    }

    @HelperPromise(value = 0, says = "Each time one is looked for is a CALL.")
    static void whatIsACall() {
        TraitLines x = told("type A:a=1 b=a+a+a+a c=1+2+3+4 d=e f=super;type B of A:f=super+super");
        due("one", x.send(0, 0, 2), 1);
        due("five", x.send(0, 1, 2), 5);
        due("numbers are none", x.send(0, 2, 2), 1);
        due("that which nobody has is one", x.send(0, 3, 2), 2);
        due("nobody has it at once", x.send(0, 25, 2), 1);
        due("super is one", x.send(0, 5, 2), 2);
        due("what ends it ends the second super, too", x.send(1, 5, 2), 3);
    }

    @HelperPromise(value = 0, says = "With a BODY its TERMS are added, one by one (an int that wraps): a NUMBER")
    static void sumsOfTerms() {
        TraitLines x = told("type A:a=0 b=999 c=999+999+999+999 d=0+0+0+1");
        due("0", x.send(0, 0, 1), 0);
        due("999", x.send(0, 1, 1), 999);
        due("four", x.send(0, 2, 1), 3996);
        due("the last counts, too", x.send(0, 3, 1), 1);
        // 100 calls are the most: no sum comes near to where an int would wrap
        due("the greatest", told(MOST_CALLS).send(0, 21, 1), 301 * 999);
    }

    @HelperPromise(value = 0, says = "super: the same MEMBER (as it was called here) is looked for, in the LINE behind that TYPE")
    static void superBehindThatType() {
        TraitLines x = told("trait T:x=10+super;type A:a=1 x=5;type B of A uses T(x>a);type C of B:a=100+super;type D of C:b=super;type E:a=super");
        sendIs(x, 2, 'a', 0, 11, 2, 1, 2, -1);
        sendIs(x, 3, 'a', 0, 111, 3, 2, 3, -1);
        sendIs(x, 4, 'a', 0, 111, 3, 2, 3, -1);
        sendIs(x, 2, 'x', 0, 5, 1, 0, 1, -1);
        // nothing stands behind the last one
        sendIs(x, 5, 'a', 1, 0, 2, 1, 5, 1);
        sendIs(x, 4, 'b', 1, 0, 2, 1, 4, 1);
        // behind it in the line of the one that it was sent to, not in its own
        x = told("type O:a=1;type A of O:a=10+super;type B of O:a=100+super;type Z of A B");
        sendIs(x, 1, 'a', 0, 11, 2, 1, 1, -1);
        sendIs(x, 3, 'a', 0, 111, 3, 2, 1, -1);
    }

    @HelperPromise(value = 0, says = "a MEMBER: it is looked for along the whole LINE")
    static void memberAlongTheWholeLine() {
        TraitLines x = told("type A:a=b b=1 c=a;type B of A:b=2 c=super");
        sendIs(x, 0, 'a', 0, 1, 2, 1, 0, -1);
        sendIs(x, 1, 'a', 0, 2, 2, 1, 0, -1);
        sendIs(x, 1, 'c', 0, 2, 4, 3, 1, -1);
    }

    @HelperPromise(value = 0, says = "(A BODY's TERMS are as told; CHANGES do not change them.)")
    static void termsAsTold() {
        TraitLines x = told("trait T:a=b b=1;type A uses T(b>c);type B uses T(a>c):b=7;type C uses T(a>b b>a)");
        sendIs(x, 1, 'a', 1, 0, 2, 1, 1, 1);
        sendIs(x, 1, 'c', 0, 1, 1, 0, 1, -1);
        sendIs(x, 2, 'c', 0, 7, 2, 1, 2, -1);
        // b is the body of a, and calls b: that is itself
        sendIs(x, 3, 'b', 5, 0, 16, 15, 3, 16);
        sendIs(x, 3, 'a', 0, 1, 1, 0, 3, -1);
    }

    @HelperPromise(value = 0, says = "DEPTH of a CALL: how many CALLS it stands in (0 the first).")
    static void depths() {
        for (int depth = 0; depth <= 15; depth++) {
            sendIs(told(deep(depth)), depth / 8, 'a', 0, 1, depth + 1, depth, 0, -1);
        }
        TraitLines x = told("type A:a=b+c b=1 c=d d=1 e=a+b");
        due("the greatest is of the second term", x.send(0, 0, 3), 2);
        due("the greatest is of the first term", x.send(0, 4, 3), 3);
    }

    @HelperPromise(value = 0, says = "1 nobody has it; 2 nobody, but some TYPE that was looked at has it REQUIRED")
    static void nobodyHasIt() {
        TraitLines x = told("trait T:t?;type A:a? m=super;type B of A uses T:b=a c=z;type C of B:m? a?;type D of B:m=super a=super");
        sendIs(x, 1, 'z', 1, 0, 1, 0, -1, 0);
        sendIs(x, 1, 'a', 2, 0, 1, 0, -1, 0);
        sendIs(x, 2, 'a', 2, 0, 1, 0, -1, 0);
        sendIs(x, 2, 'b', 2, 0, 2, 1, 2, 1);
        sendIs(x, 2, 'c', 1, 0, 2, 1, 2, 1);
        sendIs(x, 2, 't', 2, 0, 1, 0, -1, 0);
        sendIs(x, 1, 't', 1, 0, 1, 0, -1, 0);
        // C requires m, but super of A looks behind A alone
        sendIs(x, 3, 'm', 1, 0, 2, 1, 1, 1);
        sendIs(x, 4, 'm', 1, 0, 3, 2, 4, 2);
        sendIs(x, 4, 'a', 2, 0, 2, 1, 4, 1);
    }

    @HelperPromise(value = 0, says = "3 a CONFLICT; 4 there is no LINE (no CALL)")
    static void conflictAndNoLine() {
        TraitLines x = told("trait S:a=1;trait T:a=2;type A uses S T:b=a;type B of A:a=super c=b;type C of A B:z=1");
        sendIs(x, 2, 'a', 3, 0, 1, 0, -1, 0);
        sendIs(x, 2, 'b', 3, 0, 2, 1, 2, 1);
        sendIs(x, 3, 'a', 3, 0, 2, 1, 3, 1);
        sendIs(x, 3, 'c', 3, 0, 4, 3, 3, 3);
        sendIs(x, 4, 'z', 4, 0, 0, -1, -1, -1);
        sendIs(x, 4, 'y', 4, 0, 0, -1, -1, -1);
        sendIs(x, 4, 'a', 4, 0, 0, -1, -1, -1);
    }

    @HelperPromise(value = 0, says = "5 a CALL of DEPTH 16, or the 101st (these are not done, and not counted)")
    static void tooDeepOrTooMany() {
        sendIs(told(deep(15)), 1, 'a', 0, 1, 16, 15, 0, -1);
        sendIs(told(deep(16)), 2, 'a', 5, 0, 16, 15, 0, 16);
        sendIs(told(deep(16)), 2, 'b', 0, 1, 16, 15, 0, -1);
        sendIs(told("type A:a=super+1;type B of A:a=b b=b"), 1, 'a', 5, 0, 16, 15, 1, 16);
        TraitLines x = told(MOST_CALLS);
        sendIs(x, 0, 'v', 0, 301 * 999, 100, 4, 0, -1);
        sendIs(x, 0, 'u', 5, 0, 100, 4, 0, 2);
        // z, which nobody has, as the 101st and as the 100th
        x = told("type A:s=1 t=s+s+s+s p=t+t+t+t q=p+p+p+p k=s+s+s+z x=q+t+t+k l=s+s+z y=q+t+t+l");
        sendIs(x, 0, 'x', 5, 0, 100, 4, 0, 2);
        sendIs(x, 0, 'y', 1, 0, 100, 4, 0, 2);
        // q, which nobody has then, at depth 16 and at depth 15
        x = told(deep(16));
        due("take", x.take(2, 16), 0);
        sendIs(x, 2, 'a', 5, 0, 16, 15, 0, 16);
        sendIs(x, 2, 'b', 1, 0, 16, 15, 0, 15);
    }

    @HelperPromise(value = 0, says = "What does not end well ends all.")
    static void endsAll() {
        TraitLines x = told("type A:a=5+b+c b=1+z+c c=1 d=c+c+b+a;type B:a=a+z");
        sendIs(x, 0, 'a', 1, 0, 3, 2, 0, 2);
        sendIs(x, 0, 'd', 1, 0, 5, 2, 0, 2);
        // the deep end of a comes ahead of z
        sendIs(x, 1, 'a', 5, 0, 16, 15, 1, 16);
    }

    @HelperPromise(value = 0, says = "CHAIN of a MEMBER: all TYPES of the LINE that have a BODY FLAT under that letter, in its order.")
    static void whatIsInAChain() {
        TraitLines x = told("trait S:a=1;trait T:a=2;type A uses S;type B of A:a?;type C of B uses S T;type D of C:b=1;type E of D:a=1");
        due("two of five", x.chain(6, 0, -1), 2);
        due("the first of the line", x.chain(6, 0, 0), 6);
        due("its own trait's", x.chain(6, 0, 1), 2);
        due("none of a conflict", x.chain(4, 0, -1), 1);
        x = told(LADDER);
        for (int type = 3; type < 12; type++) {
            due("give", x.give(type, 25, type), 0);
        }
        due("nine", x.chain(11, 25, -1), 9);
        due("the last", x.chain(11, 25, 8), 3);
    }

    @HelperPromise(value = 0, says = "A TYPE LACKS a MEMBER: some TYPE of its LINE has it REQUIRED FLAT, and none has a BODY or a CONFLICT.")
    static void whatIsLacking() {
        TraitLines x = told("trait S:a=1;trait T:a=2;trait R:a? z?;type A uses R;type B of A:a=1;type C of A uses S T;type D of B C;type E uses R S");
        due("both", x.lacks(3), bits(0, 25));
        due("a body", x.lacks(4), bits(25));
        due("a conflict", x.lacks(5), bits(25));
        due("both of them", x.lacks(6), bits(25));
        due("required by a trait beside its body", x.lacks(7), bits(25));
        // a body that stands behind counts, too
        x = told("type A:a=1;type B of A:a?");
        due("nothing", x.lacks(1), 0);
    }

    // ---- send

    @HelperPromise(value = 28, says = "what 0: how it ends, 1: the VALUE (0 if it does not end well), 2: CALLS")
    static void howItEnds() {
        TraitLines x = told(KINDS);
        sendIs(x, 1, 'a', 0, 1, 1, 0, 1, -1);
        sendIs(x, 1, 'b', 2, 0, 1, 0, -1, 0);
        sendIs(x, 1, 'c', 1, 0, 2, 1, 1, 1);
        sendIs(x, 2, 'b', 0, 2, 1, 0, 2, -1);
        sendIs(x, 3, 'a', 4, 0, 0, -1, -1, -1);
        // what was added till then is no value
        sendIs(told("type A:a=7+z"), 0, 'a', 1, 0, 2, 1, 0, 1);
        sendIs(told("type A:a=7+a"), 0, 'a', 5, 0, 16, 15, 0, 16);
    }

    @HelperPromise(value = 28, says = "3: the greatest DEPTH of one (NONE without)")
    static void greatestDepth() {
        TraitLines x = told(KINDS);
        due("0", x.send(1, 0, 3), 0);
        due("0 of one that nobody has", x.send(1, 25, 3), 0);
        due("1", x.send(1, 2, 3), 1);
        due("no call", x.send(3, 0, 3), -1);
        due("15", told(deep(15)).send(1, 0, 3), 15);
        due("16 is not done", told(deep(16)).send(2, 0, 3), 15);
    }

    @HelperPromise(value = 28, says = "4: the TYPE whose BODY is done first (NONE)")
    static void bodyDoneFirst() {
        TraitLines x = told("trait S:a=1;trait T:a=2 t=1;type A uses T;type B of A uses S T(-t):b=t r?;type C of B:c=a;type D of A B");
        due("itself", x.send(4, 2, 4), 4);
        due("one behind, not the one called then", x.send(4, 1, 4), 3);
        due("the type, not the trait", x.send(4, 19, 4), 2);
        due("a conflict", x.send(4, 0, 4), -1);
        due("required", x.send(4, 17, 4), -1);
        due("nobody", x.send(4, 25, 4), -1);
        due("no line", x.send(5, 19, 4), -1);
        due("though it does not end well", x.send(4, 2, 0), 3);
    }

    @HelperPromise(value = 28, says = "5: the DEPTH of the CALL that ended it otherwise than well (that which was not done, if it was one; "
        + "NONE: it ends well, or there is no LINE)")
    static void depthOfTheEnd() {
        TraitLines x = told("type A:a=1 b=c+1 c=a+d d=z;type B of A;type C of A B");
        due("well", x.send(0, 0, 5), -1);
        due("at once", x.send(0, 25, 5), 0);
        due("1", x.send(0, 3, 5), 1);
        due("3", x.send(0, 1, 5), 3);
        due("no line", x.send(2, 0, 5), -1);
        due("16, which was not done", told(deep(16)).send(2, 0, 5), 16);
        due("the 101st, of depth 2", told(MOST_CALLS).send(0, 20, 5), 2);
    }

    @HelperPromise(value = 28, says = "Integer.MIN_VALUE without these.")
    static void sendWithoutThese() {
        TraitLines x = told(KINDS);
        for (int no : noUnits(4)) {
            due("type " + no, x.send(no, 0, 0), NO_ANSWER);
        }
        due("a trait", x.send(0, 0, 0), NO_ANSWER);
        for (int no : NO_LETTERS) {
            due("letter " + no, x.send(1, no, 0), NO_ANSWER);
            due("letter " + no + ", no line", x.send(3, no, 0), NO_ANSWER);
        }
        for (int no : new int[] {-1, 6, 7, 32, LEAST, MOST}) {
            due("what " + no, x.send(1, 0, no), NO_ANSWER);
            due("what " + no + ", no line", x.send(3, 0, no), NO_ANSWER);
        }
        for (int what = 0; what < 6; what++) {
            due("in no world", new TraitLines().send(0, 0, what), NO_ANSWER);
        }
    }

    // ---- chain

    @HelperPromise(value = 29, says = "The k-th TYPE of the CHAIN of a MEMBER in a TYPE; k NONE: how many")
    static void placesOfChains() {
        TraitLines x = told(LADDER);
        due("none", x.chain(11, 0, -1), 0);
        due("give", x.give(0, 0, 1), 0);
        due("give", x.give(11, 0, 1), 0);
        due("the two ends", x.chain(11, 0, -1), 2);
        due("the first", x.chain(11, 0, 0), 11);
        due("the last", x.chain(11, 0, 1), 0);
        due("of another type", x.chain(10, 0, -1), 1);
        due("z", x.chain(11, 25, -1), 0);
    }

    @HelperPromise(value = 29, says = "-2: there are not so many")
    static void chainIsNotSoLong() {
        TraitLines x = told(KINDS);
        for (int k : new int[] {1, 2, 12, 32, MOST}) {
            due("of one, k " + k, x.chain(1, 0, k), -2);
            due("of none, k " + k, x.chain(1, 1, k), -2);
        }
        due("of none, k 0", x.chain(1, 1, 0), -2);
        due("of none, k 0", x.chain(1, 25, 0), -2);
    }

    @HelperPromise(value = 29, says = "NONE without these, without a LINE, for k below NONE.")
    static void chainWithoutThese() {
        TraitLines x = told(KINDS);
        for (int no : noUnits(4)) {
            due("type " + no, x.chain(no, 0, -1), -1);
            due("type " + no, x.chain(no, 0, 0), -1);
        }
        due("a trait", x.chain(0, 0, -1), -1);
        for (int no : NO_LETTERS) {
            due("letter " + no, x.chain(1, no, -1), -1);
            due("letter " + no, x.chain(1, no, 0), -1);
        }
        for (int k : new int[] {-1, 0, 1, MOST}) {
            due("no line, k " + k, x.chain(3, 0, k), -1);
        }
        for (int k : new int[] {-2, -3, LEAST}) {
            due("k " + k, x.chain(1, 0, k), -1);
            due("of none, k " + k, x.chain(1, 25, k), -1);
        }
        due("in no world", new TraitLines().chain(0, 0, -1), -1);
    }

    // ---- lacks, answers

    @HelperPromise(value = 30, says = "MEMBERS that a TYPE LACKS, as bits; NONE without it, without a LINE.")
    static void lacksWithoutThese() {
        TraitLines x = told(KINDS);
        due("one", x.lacks(1), bits(1));
        due("none", x.lacks(2), 0);
        due("no line", x.lacks(3), -1);
        due("a trait", x.lacks(0), -1);
        for (int no : noUnits(4)) {
            due("type " + no, x.lacks(no), -1);
        }
        due("in no world", new TraitLines().lacks(0), -1);
        due("a and z", told("type A:a?;type B of A:z?").lacks(1), bits(0, 25));
    }

    @HelperPromise(value = 31, says = "MEMBERS that end well, sent to a TYPE, as bits; NONE without it.")
    static void answersWithoutIt() {
        TraitLines x = told(KINDS);
        due("a", x.answers(1), bits(0));
        due("a and b", x.answers(2), bits(0, 1));
        due("no line: none ends well", x.answers(3), 0);
        due("a trait", x.answers(0), -1);
        for (int no : noUnits(4)) {
            due("type " + no, x.answers(no), -1);
        }
        due("in no world", new TraitLines().answers(0), -1);
        due("none", told("type A").answers(0), 0);
        due("the 100 calls, not the 101", told(MOST_CALLS).answers(0), bits(15, 16, 17, 18, 19, 21));
        due("a is too deep", told(deep(16)).answers(2), (1 << 17) - 2);
        due("all", told("trait S:a=1b=1c=1d=1e=1f=1g=1h=1;trait T:i=1j=1k=1l=1m=1n=1o=1p=1;trait U:q=1r=1s=1t=1u=1v=1w=1x=1;"
            + "type A uses S T U:y=1z=1").answers(3), (1 << 26) - 1);
    }

    // ---- alike

    @HelperPromise(value = 32, says = "Whether two TYPES answer alike: each MEMBER ends as in the other one, with the same VALUE (1, 0)")
    static void answersAlike() {
        TraitLines x = told("type A:a=3 z=1;type B:a=y y=3 z=1;type C:a=1+2 z=1;type D:a=3;type E:a=3 z=2;type F:a=3 z?;type G:a=3 z=q;type H of A;type I;type J;"
            + "type K of I J;type L of I K");
        due("itself", x.alike(0, 0), 1);
        due("other terms, the same values", x.alike(0, 2), 1);
        due("y is more", x.alike(0, 1), 0);
        due("z is less", x.alike(0, 3), 0);
        due("z has another value", x.alike(0, 4), 0);
        due("nobody and required", x.alike(3, 5), 0);
        due("nobody, by another way", x.alike(3, 6), 1);
        due("of it", x.alike(0, 7), 1);
        due("both answer nothing", x.alike(8, 9), 1);
        due("no line and nothing", x.alike(8, 11), 0);
        due("nothing and no line", x.alike(11, 8), 0);
        due("itself without a line", x.alike(11, 11), 1);
        // 0 that ends well, and 0 that does not
        x = told("type A:a=0;type B;type C:a=a;type D;type E:a?");
        due("0 and nobody", x.alike(0, 1), 0);
        due("nobody and nobody", x.alike(1, 3), 1);
        due("too deep and nobody", x.alike(2, 1), 0);
        due("required and nobody", x.alike(4, 1), 0);
    }

    @HelperPromise(value = 32, says = "NONE without these.")
    static void alikeWithoutThese() {
        TraitLines x = told(KINDS);
        for (int no : noUnits(4)) {
            due("alike(" + no + ", 1)", x.alike(no, 1), -1);
            due("alike(1, " + no + ")", x.alike(1, no), -1);
            due("alike(" + no + ", " + no + ")", x.alike(no, no), -1);
        }
        due("a trait", x.alike(0, 1), -1);
        due("a trait", x.alike(1, 0), -1);
        due("a trait and itself", x.alike(0, 0), -1);
        due("in no world", new TraitLines().alike(0, 0), -1);
    }

    // ---- origins

    @HelperPromise(value = 33, says = "UNITS whose BODIES a SEND of a MEMBER to a TYPE comes to, as bits")
    static void originsOfASend() {
        TraitLines x = told("trait T:t=super+u;trait U:u=1;type A:t=2;type B of A uses T U:b=t c=c d=z+t;type C of A B:t=1");
        due("traits and a type", x.origins(3, 19), bits(0, 1, 2));
        due("its own, too", x.origins(3, 1), bits(0, 1, 2, 3));
        due("itself over and over", x.origins(3, 2), bits(3));
        due("what comes behind the end is not come to", x.origins(3, 3), bits(3));
        due("nobody", x.origins(3, 25), 0);
        due("no line", x.origins(4, 19), 0);
        // a call that is not done comes to no body: the 101st, and that of depth 16
        x = told(deep(16) + ";type D of C:z=1");
        due("q is of depth 16", x.origins(2, 0), bits(0, 1));
        due("q is of depth 15", x.origins(2, 1), bits(0, 1, 2));
        x = told(LADDER);
        due("give", x.give(11, 0, 1), 0);
        due("the last of twelve", x.origins(11, 0), bits(11));
        due("a conflict is none", told("trait S:a=1;trait T:a=1;type A uses S T").origins(2, 0), 0);
    }

    @HelperPromise(value = 33, says = "NONE without these.")
    static void originsWithoutThese() {
        TraitLines x = told(KINDS);
        for (int no : noUnits(4)) {
            due("type " + no, x.origins(no, 0), -1);
        }
        due("a trait", x.origins(0, 0), -1);
        for (int no : NO_LETTERS) {
            due("letter " + no, x.origins(1, no), -1);
        }
        due("in no world", new TraitLines().origins(0, 0), -1);
    }

    // ---- mean

    @HelperPromise(value = 34, says = "as doubleToLongBits of (double) CALLS together by (double) MEMBERS")
    static void meanOfCalls() {
        due("just 1", told("type A:a=1 b=2").mean(0), Double.doubleToLongBits(1.0));
        due("3 by 2", told("type A:a=1 b=a").mean(0), Double.doubleToLongBits(1.5));
        due("4 by 3", told("type A:a=1 b=1 c=a").mean(0), Double.doubleToLongBits(4.0 / 3.0));
        due("those that do not end well do not count", told("type A:a=1 b=a c=z d=d e?").mean(0), Double.doubleToLongBits(1.5));
        // p 21, q 85, r 4, s 1, t 5, v 100; u does not end well
        due("the greatest", told(MOST_CALLS).mean(0), Double.doubleToLongBits(216.0 / 6.0));
        // rounded up and rounded down
        due("8 by 7", told("type A:a=1b=1c=1d=1e=1f=1g=a").mean(0), Double.doubleToLongBits(8.0 / 7.0));
        due("9 by 7", told("type A:a=1b=1c=1d=1e=1f=a g=a").mean(0), Double.doubleToLongBits(9.0 / 7.0));
        due("10 by 7", told("type A:a=1b=1c=1d=1e=a f=a g=a").mean(0), Double.doubleToLongBits(10.0 / 7.0));
        due("12 by 7", told("type A:a=1b=1c=a d=a e=a f=a g=a").mean(0), Double.doubleToLongBits(12.0 / 7.0));
        due("1 by 1", told("type A:a=1").mean(0), Double.doubleToLongBits(1.0));
        due("3 by 1", told("type A:a=1;type B of A:a=super+super").mean(1), Double.doubleToLongBits(3.0));
        due("what the next type tells is none of it", told("type A:b=1;type B:a=b+b").mean(0), Double.doubleToLongBits(1.0));
        due("27 by 26", told("trait S:a=1b=1c=1d=1e=1f=1g=1h=1;trait T:i=1j=1k=1l=1m=1n=1o=1p=1;trait U:q=1r=1s=1t=1u=1v=1w=1x=1;"
            + "type A uses S T U:y=1z=a").mean(3), Double.doubleToLongBits(27.0 / 26.0));
    }

    @HelperPromise(value = 34, says = "that of Double.NaN, if none ends well, or without it")
    static void noMean() {
        TraitLines x = told("trait T:a=1;type A:a? b=z c=c;type B of A;type C of A B:a=1;type D");
        due("none ends well", x.mean(1), NAN);
        due("no line", x.mean(3), NAN);
        due("no members", x.mean(4), NAN);
        due("a trait", x.mean(0), NAN);
        for (int no : noUnits(5)) {
            due("mean(" + no + ")", x.mean(no), NAN);
        }
        due("in no world", new TraitLines().mean(0), NAN);
        due("its bits", NAN, 0x7ff8000000000000L);
    }
}
