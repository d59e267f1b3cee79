import java.util.ArrayDeque;
import java.util.ArrayList;
import java.util.Deque;
import java.util.LinkedHashSet;
import java.util.List;
import java.util.Map;
import java.util.Set;
import java.util.TreeMap;
import java.util.TreeSet;

/** The document once more, in another and plainer way: lists, copies of whole worlds, nothing kept between calls. */
final class HelperModel {
    /** For what the model does not work out, since it would take too long. */
    static final long UNKNOWN = Long.MIN_VALUE + 7;
    private static final int LEAVES = 50000;

    private static final class U {
        boolean trait;
        int name;
        List<Integer> parents = new ArrayList<>();
        List<Integer> traits = new ArrayList<>();
        List<Map<Integer, Integer>> changes = new ArrayList<>();
        TreeMap<Integer, List<Integer>> own = new TreeMap<>();

        U copy() {
            U u = new U();
            u.trait = trait;
            u.name = name;
            u.parents = new ArrayList<>(parents);
            u.traits = new ArrayList<>(traits);
            for (Map<Integer, Integer> c : changes) {
                u.changes.add(new TreeMap<>(c));
            }
            for (Map.Entry<Integer, List<Integer>> e : own.entrySet()) {
                u.own.put(e.getKey(), new ArrayList<>(e.getValue()));
            }
            return u;
        }
    }

    private static final class Fault extends RuntimeException {
        private static final long serialVersionUID = 1;
        final int number;

        Fault(int place, int why) {
            number = 8 * place + why;
        }
    }

    private static final class Ended extends RuntimeException {
        private static final long serialVersionUID = 1;
        final int how;
        final int depth;

        Ended(int how, int depth) {
            this.how = how;
            this.depth = depth;
        }
    }

    private record Token(String text, int place) {
    }

    private record Flat(int kind, List<List<Integer>> sources) {
    }

    private String tape = "";
    private List<U> world = new ArrayList<>();
    private final Deque<List<U>> undos = new ArrayDeque<>();
    private final List<List<U>> shelves = new ArrayList<>(List.of(new ArrayList<>(), new ArrayList<>()));
    private final Set<Integer> kept = new TreeSet<>();

    private static List<U> copy(List<U> from) {
        List<U> to = new ArrayList<>();
        for (U u : from) {
            to.add(u.copy());
        }
        return to;
    }

    int feed(int a, int b, int c, int d, int e) {
        StringBuilder more = new StringBuilder(tape);
        for (int n : new int[] {a, b, c, d, e}) {
            for (byte x : java.nio.ByteBuffer.allocate(4).putInt(n).array()) {
                more.append((char) (x & 255));
            }
        }
        if (more.length() > 400) {
            return -1;
        }
        tape = more.toString();
        return tape.length();
    }

    int end(int n) {
        if (n < 0 || n > tape.length()) {
            return -1;
        }
        tape = tape.substring(0, n);
        return n;
    }

    // ---- texts

    private List<Token> tokens;
    private int next;

    private static List<Token> cut(String text) {
        List<Token> tokens = new ArrayList<>();
        java.util.regex.Matcher m = java.util.regex.Pattern.compile("[a-z]+|[0-9]+|[^ ]", java.util.regex.Pattern.DOTALL).matcher(text);
        while (m.find()) {
            tokens.add(new Token(m.group(), m.start()));
        }
        tokens.add(new Token("", text.length()));
        return tokens;
    }

    private String here() {
        return tokens.get(next).text;
    }

    private Fault fault(int why) {
        return new Fault(tokens.get(next).place, why);
    }

    private void need(boolean good, int why) {
        if (!good) {
            throw fault(why);
        }
    }

    private boolean isName() {
        return here().matches("[A-Z]");
    }

    private boolean isMember() {
        return here().matches("[a-z]");
    }

    int tell() {
        List<U> told = new ArrayList<>();
        tokens = cut(tape);
        next = 0;
        tape = "";
        try {
            if (!here().equals("")) {
                parseUnit(told);
                while (!here().equals("")) {
                    need(here().equals(";"), 1);
                    next++;
                    parseUnit(told);
                }
            }
        } catch (Fault f) {
            return -2 - f.number;
        }
        world = told;
        undos.clear();
        return world.size();
    }

    private static int named(List<U> units, int name) {
        for (int k = 0; k < units.size(); k++) {
            if (units.get(k).name == name) {
                return k;
            }
        }
        return -1;
    }

    private void parseUnit(List<U> told) {
        need(here().equals("type") || here().equals("trait"), 1);
        need(told.size() < 12, 3);
        U u = new U();
        u.trait = here().equals("trait");
        next++;
        need(isName(), 1);
        u.name = here().charAt(0) - 'A';
        need(named(told, u.name) < 0, 2);
        next++;
        if (!u.trait && here().equals("of")) {
            next++;
            need(isName(), 1);
            while (isName()) {
                parseRow(told, u.parents, false);
            }
        }
        if (here().equals("uses")) {
            next++;
            need(isName(), 1);
            while (isName()) {
                parseRow(told, u.traits, true);
                u.changes.add(new TreeMap<>());
                parseChanges(u.changes.get(u.changes.size() - 1));
            }
        }
        if (here().equals(":")) {
            next++;
            need(isMember(), 1);
            while (isMember()) {
                parseOwn(u);
            }
        }
        need(here().equals(";") || here().equals(""), 1);
        told.add(u);
    }

    private void parseRow(List<U> told, List<Integer> row, boolean trait) {
        int k = named(told, here().charAt(0) - 'A');
        need(k >= 0 && told.get(k).trait == trait && !row.contains(k), 2);
        need(row.size() < 4, 3);
        row.add(k);
        next++;
    }

    private void parseChanges(Map<Integer, Integer> changes) {
        if (!here().equals("(")) {
            return;
        }
        next++;
        Map<Integer, Integer> all = new TreeMap<>();
        do {
            boolean out = here().equals("-");
            if (out) {
                need(all.size() < 6, 3);
                next++;
            }
            need(isMember(), 1);
            int member = here().charAt(0) - 'a';
            need(!all.containsKey(member), 2);
            need(all.size() < 6, 3);
            next++;
            int to = -1;
            if (!out) {
                need(here().equals(">"), 1);
                next++;
                need(isMember(), 1);
                to = here().charAt(0) - 'a';
                next++;
            }
            all.put(member, to);
        } while (!here().equals(")"));
        next++;
        for (Map.Entry<Integer, Integer> e : all.entrySet()) {
            if (!e.getKey().equals(e.getValue())) {
                changes.put(e.getKey(), e.getValue());
            }
        }
    }

    private void parseOwn(U u) {
        int member = here().charAt(0) - 'a';
        need(!u.own.containsKey(member), 2);
        need(u.own.size() < 8, 3);
        next++;
        List<Integer> terms = new ArrayList<>();
        if (here().equals("?")) {
            next++;
        } else {
            need(here().equals("="), 1);
            do {
                next++;
                String t = here();
                boolean number = t.matches("[0-9]+");
                need(number || isMember() || t.equals("super"), 1);
                java.math.BigInteger n = number ? new java.math.BigInteger(t) : java.math.BigInteger.ZERO;
                need(n.compareTo(java.math.BigInteger.valueOf(999)) <= 0, 2);
                need(terms.size() < 4, 3);
                terms.add(number ? n.intValue() : t.equals("super") ? 1000 : 1001 + t.charAt(0) - 'a');
                next++;
            } while (here().equals("+"));
        }
        u.own.put(member, terms);
    }

    // ---- acts

    private boolean isUnit(int u) {
        return u >= 0 && u < world.size();
    }

    private boolean isType(int u) {
        return isUnit(u) && !world.get(u).trait;
    }

    private static boolean isLetter(int m) {
        return m >= 0 && m <= 25;
    }

    private U act(int u) {
        undos.push(copy(world));
        if (undos.size() > 10) {
            undos.removeLast();
        }
        return world.get(u);
    }

    int join(int type, int parent) {
        if (!isType(type) || !isType(parent) || parent >= type) {
            return -1;
        }
        if (world.get(type).parents.contains(parent)) {
            return -2;
        }
        if (world.get(type).parents.size() == 4) {
            return -3;
        }
        U u = act(type);
        u.parents.add(parent);
        return u.parents.size();
    }

    int leave(int type, int parent) {
        if (!isType(type) || !world.get(type).parents.contains(parent)) {
            return -1;
        }
        U u = act(type);
        u.parents.remove(Integer.valueOf(parent));
        return u.parents.size();
    }

    int turn(int type) {
        if (!isType(type)) {
            return -1;
        }
        if (world.get(type).parents.size() < 2) {
            return -2;
        }
        U u = act(type);
        java.util.Collections.reverse(u.parents);
        return u.parents.size();
    }

    private int tellOwn(int unit, int member, List<Integer> terms) {
        TreeMap<Integer, List<Integer>> own = world.get(unit).own;
        if (terms.equals(own.get(member))) {
            return -2;
        }
        if (!own.containsKey(member) && own.size() == 8) {
            return -3;
        }
        return act(unit).own.put(member, terms) == null ? 0 : 1;
    }

    int give(int unit, int member, int n) {
        if (!isUnit(unit) || !isLetter(member) || n < 0 || n > 999) {
            return -1;
        }
        return tellOwn(unit, member, new ArrayList<>(List.of(n)));
    }

    int need(int unit, int member) {
        if (!isUnit(unit) || !isLetter(member)) {
            return -1;
        }
        return tellOwn(unit, member, new ArrayList<>());
    }

    int take(int unit, int member) {
        if (!isUnit(unit) || !world.get(unit).own.containsKey(member)) {
            return -1;
        }
        U u = act(unit);
        u.own.remove(member);
        return u.own.size();
    }

    int use(int unit, int trait) {
        if (!isUnit(unit) || !isUnit(trait) || !world.get(trait).trait || trait >= unit) {
            return -1;
        }
        if (world.get(unit).traits.contains(trait)) {
            return -2;
        }
        if (world.get(unit).traits.size() == 4) {
            return -3;
        }
        U u = act(unit);
        u.traits.add(trait);
        u.changes.add(new TreeMap<>());
        return u.traits.size();
    }

    int change(int unit, int trait, int member, int to) {
        if (!isUnit(unit) || !isLetter(member) || to < -1 || to > 25 || !world.get(unit).traits.contains(trait)) {
            return -1;
        }
        int k = world.get(unit).traits.indexOf(trait);
        Map<Integer, Integer> after = new TreeMap<>(world.get(unit).changes.get(k));
        after.remove(member);
        if (to != member) {
            after.put(member, to);
        }
        if (after.equals(world.get(unit).changes.get(k))) {
            return -2;
        }
        if (after.size() == 7) {
            return -3;
        }
        act(unit).changes.set(k, after);
        return after.size();
    }

    int undo() {
        if (undos.isEmpty()) {
            return -1;
        }
        world = undos.pop();
        return undos.size();
    }

    int keep(int shelf) {
        if (shelf != 0 && shelf != 1) {
            return -1;
        }
        kept.add(shelf);
        shelves.set(shelf, copy(world));
        return world.size();
    }

    int back(int shelf) {
        if (shelf != 0 && shelf != 1) {
            return -1;
        }
        if (!kept.contains(shelf)) {
            return -2;
        }
        world = copy(shelves.get(shelf));
        undos.clear();
        return world.size();
    }

    // ---- what is told

    int unit(int unit, int what) {
        if (!isUnit(unit)) {
            return -1;
        }
        U u = world.get(unit);
        int own = 0;
        int required = 0;
        int[] flat = new int[4];
        for (int m = 0; m < 26; m++) {
            if (u.own.containsKey(m)) {
                own |= 1 << m;
                required |= u.own.get(m).isEmpty() ? 1 << m : 0;
            }
            flat[flatOf(unit, m).kind] |= 1 << m;
        }
        int[] all = {u.trait ? 1 : 0, u.name, u.parents.size(), u.traits.size(), own, required,
            flat[1] | flat[2] | flat[3], flat[1], flat[2], flat[3]};
        return what >= 0 && what < all.length ? all[what] : -1;
    }

    private static int at(List<Integer> row, int k) {
        return k >= 0 && k < row.size() ? row.get(k) : -1;
    }

    private static int counted(List<Integer> row, int k) {
        return k < -1 ? -1 : k == -1 ? row.size() : k < row.size() ? row.get(k) : -2;
    }

    int parent(int type, int k) {
        return isType(type) ? at(world.get(type).parents, k) : -1;
    }

    int used(int unit, int k) {
        return isUnit(unit) ? at(world.get(unit).traits, k) : -1;
    }

    private int becomesAt(int unit, int k, int member) {
        return world.get(unit).changes.get(k).getOrDefault(member, member);
    }

    int becomes(int unit, int k, int member) {
        if (used(unit, k) < 0 || !isLetter(member)) {
            return -1;
        }
        int to = becomesAt(unit, k, member);
        return to == -1 ? -2 : to;
    }

    int body(int unit, int member, int k) {
        return isUnit(unit) && world.get(unit).own.containsKey(member) ? counted(world.get(unit).own.get(member), k) : -1;
    }

    private Flat flatOf(int unit, int member) {
        U u = world.get(unit);
        if (u.own.containsKey(member) && !u.own.get(member).isEmpty()) {
            return new Flat(1, List.of(List.of(unit, member)));
        }
        List<Flat> given = new ArrayList<>();
        if (u.own.containsKey(member)) {
            given.add(new Flat(2, List.of()));
        }
        for (int k = 0; k < u.traits.size(); k++) {
            for (int m = 0; m < 26; m++) {
                if (becomesAt(unit, k, m) == member) {
                    Flat f = flatOf(u.traits.get(k), m);
                    if (f.kind != 0) {
                        given.add(f);
                    }
                }
            }
        }
        Set<List<Integer>> sources = new LinkedHashSet<>();
        for (Flat f : given) {
            sources.addAll(f.sources);
        }
        if (sources.isEmpty()) {
            return new Flat(given.isEmpty() ? 0 : 2, List.of());
        }
        List<List<Integer>> all = new ArrayList<>(sources);
        return all.size() == 1 ? new Flat(1, all) : new Flat(3, all.subList(0, 2));
    }

    int flat(int unit, int member, int what) {
        if (!isUnit(unit) || !isLetter(member) || what < 0 || what > 4) {
            return -1;
        }
        Flat f = flatOf(unit, member);
        if (f.kind == 0) {
            return -1;
        }
        List<Integer> all = new ArrayList<>();
        all.add(f.kind);
        for (List<Integer> source : f.sources) {
            all.addAll(source);
        }
        return what < all.size() ? all.get(what) : -2;
    }

    // ---- lines

    /** The line, or null; the ring comes into the list, if it is not null. */
    private List<Integer> lineOf(int type, List<Integer> ring) {
        List<List<Integer>> rows = new ArrayList<>();
        for (int p : world.get(type).parents) {
            List<Integer> row = lineOf(p, null);
            if (row == null) {
                return null;
            }
            rows.add(new ArrayList<>(row));
        }
        rows.add(new ArrayList<>(world.get(type).parents));
        List<Integer> line = new ArrayList<>(List.of(type));
        rows.removeIf(List::isEmpty);
        while (!rows.isEmpty()) {
            Integer head = null;
            for (int k = rows.size() - 1; k >= 0; k--) {
                if (behind(rows, rows.get(k).get(0)) == null) {
                    head = rows.get(k).get(0);
                }
            }
            if (head == null) {
                if (ring != null) {
                    ringOf(rows, ring);
                }
                return null;
            }
            Integer gone = head;
            line.add(gone);
            rows.forEach(row -> row.remove(gone));
            rows.removeIf(List::isEmpty);
        }
        return line;
    }

    private static Integer behind(List<List<Integer>> rows, Integer type) {
        for (List<Integer> row : rows) {
            if (row.lastIndexOf(type) > 0) {
                return row.get(0);
            }
        }
        return null;
    }

    private static void ringOf(List<List<Integer>> rows, List<Integer> ring) {
        Integer at = rows.get(0).get(0);
        while (!ring.contains(at)) {
            ring.add(at);
            at = behind(rows, at);
        }
        while (!ring.get(0).equals(at)) {
            ring.remove(0);
        }
    }

    int line(int type, int k) {
        if (!isType(type)) {
            return -1;
        }
        List<Integer> line = lineOf(type, null);
        return counted(line == null ? List.of() : line, k);
    }

    int ring(int type, int k) {
        if (!isType(type)) {
            return -1;
        }
        List<Integer> ring = new ArrayList<>();
        lineOf(type, ring);
        return counted(ring, k);
    }

    private Set<Integer> overOf(int type) {
        Set<Integer> over = new TreeSet<>(Set.of(type));
        for (int p : world.get(type).parents) {
            over.addAll(overOf(p));
        }
        return over;
    }

    private static int bits(Iterable<Integer> places) {
        int bits = 0;
        for (int place : places) {
            bits |= 1 << place;
        }
        return bits;
    }

    int over(int type) {
        return isType(type) ? bits(overOf(type)) : -1;
    }

    /** All orders one by one, the first by numbers first; null if there are too many. */
    private List<List<Integer>> ordersOf(int type) {
        List<List<Integer>> all = new ArrayList<>();
        return grow(new ArrayList<>(overOf(type)), new ArrayList<>(), all) ? all : null;
    }

    private boolean grow(List<Integer> left, List<Integer> row, List<List<Integer>> all) {
        if (left.isEmpty()) {
            all.add(new ArrayList<>(row));
            return all.size() < LEAVES;
        }
        for (int k = 0; k < left.size(); k++) {
            Integer t = left.get(k);
            if (canStand(t, row)) {
                left.remove(k);
                row.add(t);
                boolean more = grow(left, row, all);
                row.remove(row.size() - 1);
                left.add(k, t);
                if (!more) {
                    return false;
                }
            }
        }
        return true;
    }

    /** t behind the row: none of the row stands behind t by what is told. */
    private boolean canStand(Integer t, List<Integer> row) {
        for (int before : row) {
            if (world.get(t).parents.contains(before)) {
                return false;
            }
        }
        for (int x = 0; x < world.size(); x++) {
            List<Integer> parents = world.get(x).parents;
            int place = parents.indexOf(t);
            // x in the row stands over the type, so that its parents keep their order here
            for (int k = place + 1; place >= 0 && k < parents.size(); k++) {
                if (row.contains(parents.get(k)) && row.contains(x)) {
                    return false;
                }
            }
        }
        return true;
    }

    long orders(int type) {
        if (!isType(type)) {
            return -1;
        }
        List<List<Integer>> all = ordersOf(type);
        return all == null ? UNKNOWN : keepers(type, all).size();
    }

    /** Each told pair looked at once more in each whole row. */
    private List<List<Integer>> keepers(int type, List<List<Integer>> all) {
        List<List<Integer>> good = new ArrayList<>();
        for (List<Integer> row : all) {
            boolean keeps = true;
            for (int t : overOf(type)) {
                int last = row.indexOf(t);
                for (int p : world.get(t).parents) {
                    keeps &= row.indexOf(p) > last;
                    last = row.indexOf(p);
                }
            }
            if (keeps) {
                good.add(row);
            }
        }
        return good;
    }

    long first(int type, int k) {
        if (!isType(type)) {
            return -1;
        }
        List<List<Integer>> all = ordersOf(type);
        if (all == null) {
            return UNKNOWN;
        }
        List<List<Integer>> good = keepers(type, all);
        return good.isEmpty() ? -1 : at(good.get(0), k);
    }

    long place(int type, int other) {
        if (!isType(type) || !isType(other) || !overOf(type).contains(other)) {
            return -1;
        }
        List<List<Integer>> all = ordersOf(type);
        if (all == null) {
            return UNKNOWN;
        }
        int places = 0;
        for (List<Integer> row : keepers(type, all)) {
            places |= 1 << row.indexOf(other);
        }
        return places;
    }

    // ---- sends

    private int calls;
    private int deepest;
    private int doneFirst;
    private Set<Integer> origins = new TreeSet<>();

    private int lookFor(List<Integer> line, int from, int member, int depth) {
        if (depth == 16 || calls == 100) {
            throw new Ended(5, depth);
        }
        calls++;
        deepest = Math.max(deepest, depth);
        int end = 1;
        for (int k = from; k < line.size(); k++) {
            Flat f = flatOf(line.get(k), member);
            if (f.kind == 3) {
                throw new Ended(3, depth);
            }
            if (f.kind == 2) {
                end = 2;
            }
            if (f.kind == 1) {
                int teller = f.sources.get(0).get(0);
                origins.add(teller);
                if (doneFirst < 0) {
                    doneFirst = line.get(k);
                }
                int sum = 0;
                for (int term : world.get(teller).own.get(f.sources.get(0).get(1))) {
                    sum += term < 1000 ? term
                        : term == 1000 ? lookFor(line, k + 1, member, depth + 1)
                        : lookFor(line, 0, term - 1001, depth + 1);
                }
                return sum;
            }
        }
        throw new Ended(end, depth);
    }

    private int[] sendAll(int type, int member) {
        calls = 0;
        deepest = -1;
        doneFirst = -1;
        origins = new TreeSet<>();
        List<Integer> line = lineOf(type, null);
        if (line == null) {
            return new int[] {4, 0, 0, -1, -1, -1};
        }
        try {
            int value = lookFor(line, 0, member, 0);
            return new int[] {0, value, calls, deepest, doneFirst, -1};
        } catch (Ended e) {
            return new int[] {e.how, 0, calls, deepest, doneFirst, e.depth};
        }
    }

    int send(int type, int member, int what) {
        return isType(type) && isLetter(member) && what >= 0 && what <= 5 ? sendAll(type, member)[what] : Integer.MIN_VALUE;
    }

    int chain(int type, int member, int k) {
        if (!isType(type) || !isLetter(member) || lineOf(type, null) == null) {
            return -1;
        }
        List<Integer> chain = new ArrayList<>(lineOf(type, null));
        chain.removeIf(t -> flatOf(t, member).kind != 1);
        return counted(chain, k);
    }

    int lacks(int type) {
        if (!isType(type) || lineOf(type, null) == null) {
            return -1;
        }
        int bits = 0;
        for (int m = 0; m < 26; m++) {
            Set<Integer> kinds = new TreeSet<>();
            for (int t : lineOf(type, null)) {
                kinds.add(flatOf(t, m).kind);
            }
            if (kinds.contains(2) && !kinds.contains(1) && !kinds.contains(3)) {
                bits |= 1 << m;
            }
        }
        return bits;
    }

    int answers(int type) {
        if (!isType(type)) {
            return -1;
        }
        int bits = 0;
        for (int m = 0; m < 26; m++) {
            bits |= sendAll(type, m)[0] == 0 ? 1 << m : 0;
        }
        return bits;
    }

    int alike(int type, int other) {
        if (!isType(type) || !isType(other)) {
            return -1;
        }
        int alike = 1;
        for (int m = 0; m < 26; m++) {
            int[] a = sendAll(type, m);
            int[] b = sendAll(other, m);
            alike = a[0] == b[0] && a[1] == b[1] ? alike : 0;
        }
        return alike;
    }

    int origins(int type, int member) {
        if (!isType(type) || !isLetter(member)) {
            return -1;
        }
        sendAll(type, member);
        return bits(origins);
    }

    long mean(int type) {
        double all = 0;
        double members = 0;
        for (int m = 0; m < 26 && isType(type); m++) {
            int[] s = sendAll(type, m);
            if (s[0] == 0) {
                all += s[2];
                members++;
            }
        }
        return Double.doubleToLongBits(members == 0 ? Double.NaN : all / members);
    }

    int find(int name) {
        return named(world, name);
    }

    int count(int what) {
        int[] all = new int[11];
        all[0] = world.size();
        all[7] = undos.size();
        all[8] = tape.length();
        all[9] = bits(kept);
        for (int u = 0; u < world.size(); u++) {
            all[6] += Integer.bitCount(unit(u, 9));
            if (world.get(u).trait) {
                all[2]++;
                continue;
            }
            all[1]++;
            int bit = 1 << u;
            all[10] |= bit;
            for (int v = 0; v < world.size(); v++) {
                if (world.get(v).parents.contains(u)) {
                    all[10] &= ~bit;
                }
            }
            List<Integer> line = lineOf(u, null);
            if (line == null) {
                all[3] |= bit;
                continue;
            }
            all[5] = Math.max(all[5], line.size());
            boolean whole = lacks(u) == 0;
            for (int t : line) {
                whole &= unit(t, 9) == 0;
            }
            all[4] |= whole ? bit : 0;
        }
        return what >= 0 && what < all.length ? all[what] : -1;
    }
}
