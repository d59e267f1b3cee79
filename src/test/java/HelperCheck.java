/** Counts answers that are not as due, feeds texts, and looks at whole worlds; tests extend it to have all that at hand. */
class HelperCheck {
    static final int NONE = -1;
    static final int NO_ANSWER = Integer.MIN_VALUE;
    static final int LEAST = Integer.MIN_VALUE;
    static final int MOST = Integer.MAX_VALUE;
    /** Twelve types, the first without a parent, each other one of the one ahead of it. */
    static final String LADDER = ladder();
    private static int wrong = 0;
    private static int made = 0;
    private static String about = "";

    /** What is printed ahead of each answer that is not as due. */
    static void about(String what) {
        about = what;
    }

    /** How many answers were looked at so far. */
    static int made() {
        return made;
    }

    static void due(String call, long got, long want) {
        made++;
        if (got != want) {
            wrong++;
            System.out.println(about + call + " answered " + got + ", due is " + want);
        }
    }

    static void holds(String what, boolean good) {
        if (!good) {
            wrong++;
            System.out.println(about + "not so: " + what);
        }
    }

    static void finish(String test) {
        System.out.println(test + ": " + (wrong == 0 ? "all answers are as due" : wrong + " answers are not as due"));
        if (wrong != 0) {
            System.exit(1);
        }
    }

    /** The text comes behind what the tape has. */
    static void feedText(TraitLines x, String text) {
        int before = x.count(8);
        for (int from = 0; from < text.length(); from += 20) {
            int[] n = new int[5];
            for (int k = 0; k < 20; k++) {
                int sign = from + k < text.length() ? text.charAt(from + k) & 255 : 0;
                n[k / 4] |= sign << 24 - 8 * (k % 4);
            }
            holds("it is fed: " + text, x.feed(n[0], n[1], n[2], n[3], n[4]) == before + from + 20);
        }
        holds("it ends: " + text, x.end(before + text.length()) == before + text.length());
    }

    static int tellText(TraitLines x, String text) {
        feedText(x, text);
        return x.tell();
    }

    /** A new object with the world of a text that has no fault. */
    static TraitLines told(String text) {
        TraitLines x = new TraitLines();
        int units = tellText(x, text);
        holds("it is told: " + text, units >= 0);
        return x;
    }

    /** The place of the fault is marked in the text by '^', which does not belong to it. */
    static void fault(String marked, int why) {
        int place = marked.indexOf('^');
        String text = marked.substring(0, place) + marked.substring(place + 1);
        due("fault of " + marked, tellText(new TraitLines(), text), -2 - (8 * place + why));
    }

    static void good(String text, int units) {
        due("tell of " + text, tellText(new TraitLines(), text), units);
    }

    static int bits(int... places) {
        int bits = 0;
        for (int place : places) {
            bits |= 1 << place;
        }
        return bits;
    }

    private static String ladder() {
        StringBuilder text = new StringBuilder("type A");
        for (char name = 'B'; name <= 'L'; name++) {
            text.append(";type ").append(name).append(" of ").append((char) (name - 1));
        }
        return text.toString();
    }

    /** Numbers that are no unit in a world of so many. */
    static int[] noUnits(int units) {
        return new int[] {-1, units, units + 1, 12, 13, 31, 32, 33, LEAST, MOST, -2, -32};
    }

    static final int[] NO_LETTERS = {-1, 26, 27, 31, 32, 58, LEAST, MOST, -2, -26};

    /** Numbers that are no place in a row of so many. */
    static int[] noPlaces(int size) {
        return new int[] {-1, size, size + 1, 12, 26, 32, LEAST, MOST, -2, -26};
    }

    /** What flat() answers for 0 to 4. */
    static void flatIs(TraitLines x, int unit, char member, int... due) {
        for (int what = 0; what < 5; what++) {
            due("flat(" + unit + ", " + member + ", " + what + ")", x.flat(unit, member - 'a', what), due[what]);
        }
    }

    static void lineIs(TraitLines x, int type, int... due) {
        due("line(" + type + ", -1)", x.line(type, -1), due.length);
        for (int k = 0; k < due.length; k++) {
            due("line(" + type + ", " + k + ")", x.line(type, k), due[k]);
        }
        due("line(" + type + ") beyond", x.line(type, due.length), -2);
        due("line(" + type + ", -2)", x.line(type, -2), -1);
    }

    static void ringIs(TraitLines x, int type, int... due) {
        due("ring(" + type + ", -1)", x.ring(type, -1), due.length);
        for (int k = 0; k < due.length; k++) {
            due("ring(" + type + ", " + k + ")", x.ring(type, k), due[k]);
        }
        due("ring(" + type + ") beyond", x.ring(type, due.length), -2);
        due("ring(" + type + ", -2)", x.ring(type, -2), -1);
    }

    /** What send() answers for 0 to 5: how it ends, value, calls, depth, first type, depth of the end. */
    static void sendIs(TraitLines x, int type, char member, int... due) {
        for (int what = 0; what < 6; what++) {
            due("send(" + type + ", " + member + ", " + what + ")", x.send(type, member - 'a', what), due[what]);
        }
    }

    /** All that is told, and how many acts, bytes and shelves there are: some 30 calls a unit. */
    static String picture(TraitLines x) {
        StringBuilder picture = new StringBuilder();
        for (int what = 0; what <= 10; what++) {
            picture.append(x.count(what)).append(' ');
        }
        int units = x.count(0);
        for (int unit = 0; unit < units; unit++) {
            picture.append('\n');
            for (int what = 0; what < 10; what++) {
                picture.append(x.unit(unit, what)).append(' ');
            }
            int parents = x.unit(unit, 2);
            for (int k = 0; k < parents; k++) {
                picture.append(" of ").append(x.parent(unit, k));
            }
            pictureUses(x, unit, picture);
            pictureOwn(x, unit, picture);
        }
        return picture.toString();
    }

    private static void pictureUses(TraitLines x, int unit, StringBuilder picture) {
        int uses = x.unit(unit, 3);
        for (int k = 0; k < uses; k++) {
            picture.append(" uses ").append(x.used(unit, k));
            for (int member = 0; member < 26; member += member < 6 ? 1 : 19) {
                picture.append(' ').append(x.becomes(unit, k, member));
            }
        }
    }

    private static void pictureOwn(TraitLines x, int unit, StringBuilder picture) {
        int own = x.unit(unit, 4);
        for (int member = 0; member < 26; member++) {
            if ((own >> member & 1) != 0) {
                int terms = x.body(unit, member, -1);
                picture.append(" own ").append(member);
                for (int k = 0; k < terms; k++) {
                    picture.append(' ').append(x.body(unit, member, k));
                }
            }
        }
    }

    /** Nothing happened since the picture. */
    static void unchanged(TraitLines x, String before) {
        due("what is otherwise than it was", picture(x).equals(before) ? 0 : 1, 0);
    }
}
