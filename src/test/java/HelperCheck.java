/** Counts answers that are not as due, and feeds texts. */
final class HelperCheck {
    static final int NONE = -1;
    static final int NO_ANSWER = Integer.MIN_VALUE;
    private static int wrong = 0;

    private HelperCheck() {
    }

    static void due(String call, long got, long want) {
        if (got != want) {
            wrong++;
            System.out.println(call + " answered " + got + ", due is " + want);
        }
    }

    static void finish(String test) {
        System.out.println(test + ": " + (wrong == 0 ? "all answers are as due" : wrong + " answers are not as due"));
        if (wrong != 0) {
            System.exit(1);
        }
    }

    /** The text comes behind what the tape has. */
    static void feedText(TraitLines x, String text) {
        int before = x.count(8);
        for (int from = 0; from < text.length(); from += 20) {
            int[] n = new int[5];
            for (int k = 0; k < 20; k++) {
                int sign = from + k < text.length() ? text.charAt(from + k) & 255 : 0;
                n[k / 4] |= sign << 24 - 8 * (k % 4);
            }
            due("feed for " + text, x.feed(n[0], n[1], n[2], n[3], n[4]), before + from + 20);
        }
        due("end for " + text, x.end(before + text.length()), before + text.length());
    }

    static int tellText(TraitLines x, String text) {
        feedText(x, text);
        return x.tell();
    }

    /** A new object with the world of a text that has no fault. */
    static TraitLines told(String text) {
        TraitLines x = new TraitLines();
        int units = tellText(x, text);
        if (units < 0) {
            due("tell of " + text, units, 0);
        }
        return x;
    }

    static int bits(int... places) {
        int bits = 0;
        for (int place : places) {
            bits |= 1 << place;
        }
        return bits;
    }

    static int letter(char c) {
        return c - 'a';
    }
}
