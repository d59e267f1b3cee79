import java.lang.reflect.Method;
import java.util.Arrays;
import java.util.Random;

/** All promises: runs of calls on made-up worlds, each answer held against that of HelperModel. The seeds are fixed. */
public final class ModelTest {
    private static final String[] QUERIES = {"unit 2", "parent 2", "used 2", "becomes 3", "body 3", "flat 3", "line 2", "ring 2",
        "over 1", "orders 1", "first 2", "place 2", "send 3", "chain 3", "lacks 1", "answers 1", "alike 2", "origins 2", "mean 1",
        "find 1", "count 1"};
    private static final String[] ACTS = {"join 2", "join 2", "leave 2", "turn 1", "give 3", "need 2", "take 2", "use 2", "change 4",
        "undo 0", "keep 1", "back 1"};

    private final Random random;
    private final TraitLines x = new TraitLines();
    private final HelperModel model = new HelperModel();
    private final StringBuilder run = new StringBuilder();
    private int units;
    private int letters;

    private ModelTest(int seed) {
        random = new Random(seed);
    }

    public static void main(String[] args) throws Exception {
        int runs = args.length > 0 ? Integer.parseInt(args[0]) : 200;
        int from = args.length > 1 ? Integer.parseInt(args[1]) : 0;
        int wrong = 0;
        long good = 0;
        for (int seed = from; seed < from + runs && wrong < 5; seed++) {
            ModelTest test = new ModelTest(seed);
            if (!test.runOnce()) {
                wrong++;
                System.out.println("seed " + seed + ":" + test.run);
            }
            good += test.worlds;
        }
        System.out.println("ModelTest: " + (wrong == 0 ? "all answers are as due, worlds told: " + good : "wrong"));
        if (wrong != 0) {
            System.exit(1);
        }
    }

    private int worlds;

    private boolean runOnce() throws Exception {
        for (int round = 0; round < 6; round++) {
            int told = tell(random.nextInt(3) == 0 ? spoiled(text()) : text());
            if (told == Integer.MIN_VALUE) {
                return false;
            }
            worlds += told > 0 ? 1 : 0;
            for (int k = 0; k < 60; k++) {
                String[] from = random.nextInt(3) == 0 ? ACTS : QUERIES;
                String[] call = from[random.nextInt(from.length)].split(" ");
                if (!same(call[0], some(call[0], Integer.parseInt(call[1])))) {
                    return false;
                }
            }
            if (random.nextInt(3) == 0 && !sweep()) {
                return false;
            }
        }
        return true;
    }

    /** All that can be asked of the world that there is. */
    private boolean sweep() throws Exception {
        boolean good = true;
        units = x.count(0);
        for (int what = 0; what <= 10; what++) {
            good = good && same("count", what);
        }
        for (int unit = 0; unit < units && good; unit++) {
            for (int k = -1; k <= 12; k++) {
                good = good && same("unit", unit, k) && same("parent", unit, k) && same("used", unit, k)
                    && same("line", unit, k) && same("ring", unit, k) && same("alike", unit, k);
            }
            for (int k = 0; k < 12 && x.orders(unit) < 300; k++) {
                good = good && same("first", unit, k) && same("place", unit, k);
            }
            good = good && same("over", unit) && same("orders", unit) && same("lacks", unit) && same("answers", unit)
                && same("mean", unit);
            for (int member = 0; member <= letters && good; member++) {
                good = sweepMember(unit, member);
            }
        }
        return good;
    }

    private boolean sweepMember(int unit, int member) throws Exception {
        boolean good = same("origins", unit, member);
        for (int k = -1; k < 6; k++) {
            good = good && same("send", unit, member, k) && same("chain", unit, member, k) && same("flat", unit, member, k)
                && same("body", unit, member, k) && same("becomes", unit, k, member);
        }
        return good;
    }

    private int tell(String text) throws Exception {
        run.append("\n  text ").append(text.replaceAll("[^ -~]", "#"));
        for (int from = 0; from < text.length(); from += 20) {
            int[] n = new int[5];
            for (int k = 0; k < 20; k++) {
                n[k / 4] = n[k / 4] << 8 | (from + k < text.length() ? text.charAt(from + k) & 255 : random.nextInt(256));
            }
            if (!same("feed", n)) {
                return Integer.MIN_VALUE;
            }
        }
        if (!same("end", text.length()) || !same("count", 8) || !same("tell")) {
            return Integer.MIN_VALUE;
        }
        units = x.count(0);
        return units;
    }

    private boolean same(String name, int... args) throws Exception {
        long got = answer(x, name, args);
        long want = answer(model, name, args);
        String call = name + Arrays.toString(args);
        if (got != want && want != HelperModel.UNKNOWN) {
            run.append("\n  ").append(call).append(" answered ").append(got).append(", the model ").append(want);
            return false;
        }
        run.append("\n  ").append(call).append(" = ").append(got);
        return true;
    }

    private static long answer(Object object, String name, int... args) throws Exception {
        for (Method m : object.getClass().getDeclaredMethods()) {
            if (m.getName().equals(name) && m.getParameterCount() == args.length && m.getReturnType() != void.class) {
                Object[] boxed = new Object[args.length];
                for (int k = 0; k < args.length; k++) {
                    boxed[k] = args[k];
                }
                return ((Number) m.invoke(object, boxed)).longValue();
            }
        }
        throw new IllegalStateException(name);
    }

    /** Arguments that mostly fit. */
    private int[] some(String name, int n) {
        int[] args = new int[n];
        for (int k = 0; k < n; k++) {
            args[k] = random.nextInt(12) == 0 ? odd() : fit(name, k);
        }
        return args;
    }

    private int odd() {
        int[] odd = {-1, -2, -3, 12, 13, 25, 26, 27, 999, 1000, 32, Integer.MAX_VALUE, Integer.MIN_VALUE};
        return odd[random.nextInt(odd.length)];
    }

    private int fit(String name, int k) {
        int unit = random.nextInt(units + 1);
        int high = units - 1 - random.nextInt(1 + units / 2);
        boolean letter = (" give need take becomes flat body send chain origins ".contains(" " + name + " ") && k == 1)
            || name.equals("change") && k > 1 || name.equals("becomes") && k == 2;
        if (name.equals("becomes") && k == 1) {
            return random.nextInt(4);
        }
        if (name.equals("give") && k == 2) {
            return random.nextInt(random.nextBoolean() ? 3 : 1000);
        }
        if (name.equals("change") && k == 3 && random.nextInt(3) == 0) {
            return -1;
        }
        if (name.equals("change") && k == 1) {
            int used = x.used(random.nextInt(Math.max(units, 1)), random.nextInt(2));
            return used == -1 ? unit : used;
        }
        if (letter) {
            return random.nextInt(letters + 1);
        }
        if (name.equals("count") || name.equals("unit") && k == 1) {
            return random.nextInt(12);
        }
        if (name.equals("keep") || name.equals("back")) {
            return random.nextInt(3);
        }
        if (name.equals("find")) {
            return random.nextInt(27);
        }
        boolean item = " line ring first parent used body chain ".contains(" " + name + " ") && k > 0;
        if (item || " flat send ".contains(" " + name + " ") && k == 2) {
            return random.nextInt(8) - 1;
        }
        return k == 0 && random.nextInt(3) > 0 ? high : unit;
    }

    // ---- texts

    private String text() {
        letters = 1 + random.nextInt(random.nextBoolean() ? 4 : 12);
        int most = random.nextInt(14);
        int traits = random.nextInt(4);
        StringBuilder text = new StringBuilder();
        String names = shuffled();
        String types = "";
        String told = "";
        for (int u = 0; u < most; u++) {
            boolean trait = random.nextInt(4) < traits && random.nextInt(4) > 0;
            StringBuilder unit = new StringBuilder(u > 0 ? ";" : "");
            char name = names.charAt(u);
            unit.append(trait ? "trait" : "type").append(blank()).append(name);
            if (!trait && !types.isEmpty() && random.nextInt(5) > 0) {
                unit.append(blank()).append("of").append(row(types, false));
            }
            if (!told.isEmpty() && random.nextInt(2) > 0) {
                unit.append(blank()).append("uses").append(row(told, true));
            }
            if (random.nextInt(3) > 0) {
                unit.append(blank()).append(':').append(owns());
            }
            if (text.length() + unit.length() > 400) {
                break;
            }
            text.append(unit);
            types += trait ? "" : name;
            told += trait ? name : "";
        }
        return text.toString();
    }

    private String shuffled() {
        StringBuilder names = new StringBuilder("ABCDEFGHIJKLMNOPQRSTUVWXYZ");
        for (int k = 0; k < 26; k++) {
            int other = random.nextInt(26);
            char c = names.charAt(k);
            names.setCharAt(k, names.charAt(other));
            names.setCharAt(other, c);
        }
        return names.toString();
    }

    private String blank() {
        return random.nextInt(6) == 0 ? " " : "";
    }

    private String row(String from, boolean uses) {
        StringBuilder row = new StringBuilder();
        int n = 1 + random.nextInt(random.nextInt(12) == 0 ? 5 : 3);
        String left = from;
        for (int k = 0; k < n && !left.isEmpty(); k++) {
            // the later ones more often, so that lines grow long
            int at = Math.max(random.nextInt(left.length()), random.nextInt(left.length()));
            boolean falling = random.nextInt(8) > 0;
            row.append(blank()).append(left.charAt(at));
            // a row that falls agrees with the others more often
            left = left.substring(0, at) + (falling && !uses ? "" : left.substring(at + 1));
            if (uses && random.nextInt(2) == 0) {
                row.append(changes());
            }
        }
        return row.toString();
    }

    private char letter() {
        return (char) ('a' + random.nextInt(letters));
    }

    private String changes() {
        StringBuilder changes = new StringBuilder("(");
        int n = 1 + random.nextInt(random.nextInt(10) == 0 ? 7 : 2);
        int seen = 0;
        for (int k = 0; k < n; k++) {
            char m = letter();
            if ((seen >> m - 'a' & 1) != 0 && random.nextInt(30) > 0) {
                continue;
            }
            seen |= 1 << m - 'a';
            changes.append(blank());
            changes.append(random.nextBoolean() ? "-" + m : m + blank() + ">" + letter()).append(" ");
        }
        return changes.append(")").toString();
    }

    private String owns() {
        StringBuilder owns = new StringBuilder();
        int n = 1 + random.nextInt(random.nextInt(15) == 0 ? 9 : 3);
        int seen = 0;
        for (int k = 0; k < n; k++) {
            char m = letter();
            if ((seen >> m - 'a' & 1) != 0 && random.nextInt(30) > 0) {
                continue;
            }
            seen |= 1 << m - 'a';
            owns.append(" ").append(m).append(blank());
            owns.append(random.nextInt(5) == 0 ? "?" : "=" + terms(m));
        }
        return owns.toString();
    }

    private String terms(char own) {
        StringBuilder terms = new StringBuilder();
        int n = 1 + random.nextInt(random.nextInt(25) == 0 ? 5 : 4) / (random.nextBoolean() ? 1 : 2);
        for (int k = 0; k < n; k++) {
            int kind = random.nextInt(6);
            terms.append(k > 0 ? "+" : "").append(blank());
            terms.append(kind < 2 ? "" + random.nextInt(random.nextInt(40) == 0 ? 1100 : 100) : kind < 3 ? "super" : "" + called(own));
        }
        return terms.toString();
    }

    /** A later letter mostly, so that not all goes round. */
    private char called(char own) {
        int later = 'a' + letters - 1 - own;
        return later > 0 && random.nextInt(6) > 0 ? (char) (own + 1 + random.nextInt(later)) : letter();
    }

    /** One or two bytes of it otherwise. */
    private String spoiled(String text) {
        String signs = "ABZ abz019;:()->=+?#type of uses super trait\u00e9\u0000";
        StringBuilder spoiled = new StringBuilder(text);
        for (int n = 1 + random.nextInt(2); n > 0 && spoiled.length() > 0; n--) {
            int at = random.nextInt(spoiled.length());
            char sign = signs.charAt(random.nextInt(signs.length()));
            switch (random.nextInt(4)) {
                case 0 -> spoiled.deleteCharAt(at);
                case 1 -> spoiled.setCharAt(at, sign);
                case 2 -> spoiled.setLength(at);
                default -> spoiled.insert(at, sign);
            }
        }
        return spoiled.substring(0, Math.min(400, spoiled.length()));
    }
}
