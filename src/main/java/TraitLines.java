import java.util.Arrays;

/** Types in merged lines, traits laid flat into them: what each call must answer stands in the document. */
public final class TraitLines {
    public static final int NONE = -1;

    private static final int ALREADY = -2;
    private static final int TOO_MANY = -3;
    private static final int NOT_SO_MANY = -2;
    private static final int NOTHING_KEPT = -2;
    private static final int LEFT_OUT = -2;
    private static final int OF_NO_SUCH_KIND = -2;
    private static final int NO_ANSWER = -2147483648;
    private static final long NAN_BITS = 0x7ff8000000000000L;

    private static final int MAX_UNITS = 12;
    private static final int MAX_IN_ROW = 4;
    private static final int MAX_CHANGES = 6;
    private static final int MAX_MEMBERS = 8;
    private static final int MAX_TERMS = 4;
    private static final int MAX_NUMBER = 999;
    private static final int MAX_TAPE = 400;
    private static final int MAX_UNDONE = 10;
    private static final int MAX_CALLS = 100;
    private static final int MAX_DEPTH = 16;
    private static final int LETTERS = 26;
    private static final int SHELVES = 2;

    private static final int SUPER = 1000;
    private static final int FIRST_MEMBER = 1001;

    private static final int FLAT_NOTHING = 0;
    private static final int FLAT_BODY = 1;
    private static final int FLAT_REQUIRED = 2;
    private static final int FLAT_CONFLICT = 3;

    private static final int WELL = 0;
    private static final int NOBODY = 1;
    private static final int ONLY_REQUIRED = 2;
    private static final int IN_CONFLICT = 3;
    private static final int WITHOUT_LINE = 4;
    private static final int TOO_DEEP_OR_LONG = 5;

    private final byte[] tape = new byte[MAX_TAPE];
    private int tapeLength;
    private World world = new World();
    private World draft = new World();
    private final World[] shelves = new World[SHELVES];
    private int keptBits;
    private final Reader reader = new Reader();
    private final History history = new History();
    private final Flats flats = new Flats();
    private final Lines lines = new Lines();
    private final Orders ordering = new Orders();
    private final Sender sender = new Sender();
    private boolean stale;

    public TraitLines() {
        for (int shelf = 0; shelf < SHELVES; shelf++) {
            shelves[shelf] = new World();
        }
    }

    // ---- the TAPE

    public int feed(int a, int b, int c, int d, int e) {
        if (tapeLength + 20 > MAX_TAPE) {
            return NONE;
        }
        putBytes(a);
        putBytes(b);
        putBytes(c);
        putBytes(d);
        putBytes(e);
        return tapeLength;
    }

    private void putBytes(int number) {
        for (int shift = 24; shift >= 0 && tapeLength < MAX_TAPE; shift -= 8) {
            tape[tapeLength] = (byte) (number >>> shift);
            tapeLength++;
        }
    }

    public int end(int n) {
        if (n < 0 || n > tapeLength) {
            return NONE;
        }
        tapeLength = n;
        return n;
    }

    public int tell() {
        int fault = reader.read(tape, tapeLength, draft);
        tapeLength = 0;
        if (fault != 0) {
            return -2 - fault;
        }
        World told = draft;
        draft = world;
        world = told;
        startAnew();
        return world.size;
    }

    private void startAnew() {
        history.forgetAll();
        stale = true;
    }

    // ---- ACTS

    public int join(int type, int parent) {
        if (!world.isType(type) || !world.isType(parent) || parent >= type) {
            return NONE;
        }
        Row parents = world.units[type].parents;
        if (parents.placeOf(parent) != NONE) {
            return ALREADY;
        }
        if (parents.size >= MAX_IN_ROW) {
            return TOO_MANY;
        }
        beginAct(type);
        parents.add(parent);
        return parents.size;
    }

    public int leave(int type, int parent) {
        if (!world.isType(type)) {
            return NONE;
        }
        Row parents = world.units[type].parents;
        int place = parents.placeOf(parent);
        if (place == NONE) {
            return NONE;
        }
        beginAct(type);
        parents.removeAt(place);
        return parents.size;
    }

    public int turn(int type) {
        if (!world.isType(type)) {
            return NONE;
        }
        Row parents = world.units[type].parents;
        if (parents.size < 2) {
            return ALREADY;
        }
        beginAct(type);
        parents.reverse();
        return parents.size;
    }

    public int give(int unit, int member, int n) {
        if (!world.isUnit(unit) || !isLetter(member) || n < 0 || n > MAX_NUMBER) {
            return NONE;
        }
        Unit owner = world.units[unit];
        boolean already = owner.termCounts[member] == 1 && owner.termAt(member, 0) == n;
        int answer = already ? ALREADY : beginMember(unit, member);
        if (answer >= 0) {
            owner.addTerm(member, n);
        }
        return answer;
    }

    public int need(int unit, int member) {
        if (!world.isUnit(unit) || !isLetter(member)) {
            return NONE;
        }
        return world.units[unit].requires(member) ? ALREADY : beginMember(unit, member);
    }

    /** The MEMBER is REQUIRED then, which give() makes a BODY; nothing happens where there are too many. */
    private int beginMember(int unit, int member) {
        Unit owner = world.units[unit];
        boolean told = owner.tells(member);
        if (!told && owner.members >= MAX_MEMBERS) {
            return TOO_MANY;
        }
        beginAct(unit);
        owner.require(member);
        return told ? 1 : 0;
    }

    public int take(int unit, int member) {
        if (!world.isUnit(unit) || !isLetter(member) || !world.units[unit].tells(member)) {
            return NONE;
        }
        beginAct(unit);
        world.units[unit].forget(member);
        return world.units[unit].members;
    }

    public int use(int unit, int trait) {
        if (!world.isUnit(unit) || !world.isTrait(trait) || trait >= unit) {
            return NONE;
        }
        Unit user = world.units[unit];
        if (user.traits.placeOf(trait) != NONE) {
            return ALREADY;
        }
        if (user.traits.size >= MAX_IN_ROW) {
            return TOO_MANY;
        }
        beginAct(unit);
        user.addTrait(trait);
        return user.traits.size;
    }

    public int change(int unit, int trait, int member, int to) {
        if (!world.isUnit(unit) || !isLetter(member) || to != NONE && !isLetter(to)) {
            return NONE;
        }
        Unit user = world.units[unit];
        int place = user.traits.placeOf(trait);
        if (place == NONE) {
            return NONE;
        }
        int now = user.letterThere(place, member);
        if (now == to) {
            return ALREADY;
        }
        if (now == member && user.changes[place] >= MAX_CHANGES) {
            return TOO_MANY;
        }
        beginAct(unit);
        user.setLetterThere(place, member, to);
        return user.changes[place];
    }

    private void beginAct(int unit) {
        history.record(unit, world.units[unit]);
        stale = true;
    }

    public int undo() {
        if (history.size == 0) {
            return NONE;
        }
        history.restoreLast(world);
        stale = true;
        return history.size;
    }

    public int keep(int shelf) {
        if (shelf < 0 || shelf >= SHELVES) {
            return NONE;
        }
        shelves[shelf].copyFrom(world);
        keptBits |= 1 << shelf;
        return world.size;
    }

    public int back(int shelf) {
        if (shelf < 0 || shelf >= SHELVES) {
            return NONE;
        }
        if (!hasBit(keptBits, shelf)) {
            return NOTHING_KEPT;
        }
        world.copyFrom(shelves[shelf]);
        startAnew();
        return world.size;
    }

    // ---- what is told, and what it is FLAT

    public int unit(int unit, int what) {
        if (!world.isUnit(unit)) {
            return NONE;
        }
        settle();
        Unit asked = world.units[unit];
        switch (what) {
            case 0: return asked.trait ? 1 : 0;
            case 1: return asked.name;
            case 2: return asked.parents.size;
            case 3: return asked.traits.size;
            case 4: return asked.toldBits();
            case 5: return asked.requiredBits();
            case 6: return flats.bitsOfAll(unit);
            case 7: return flats.bitsOf(unit, FLAT_BODY);
            case 8: return flats.bitsOf(unit, FLAT_REQUIRED);
            case 9: return flats.bitsOf(unit, FLAT_CONFLICT);
            default: return NONE;
        }
    }

    public int parent(int type, int k) {
        return world.isType(type) ? world.units[type].parents.itemAt(k) : NONE;
    }

    public int used(int unit, int k) {
        return world.isUnit(unit) ? world.units[unit].traits.itemAt(k) : NONE;
    }

    public int becomes(int unit, int k, int member) {
        if (!world.isUnit(unit) || !isLetter(member)) {
            return NONE;
        }
        Unit user = world.units[unit];
        if (k < 0 || k >= user.traits.size) {
            return NONE;
        }
        int to = user.letterThere(k, member);
        return to == NONE ? LEFT_OUT : to;
    }

    public int body(int unit, int member, int k) {
        if (!world.isUnit(unit) || !isLetter(member) || k < NONE) {
            return NONE;
        }
        Unit owner = world.units[unit];
        if (!owner.tells(member)) {
            return NONE;
        }
        int terms = owner.termCounts[member];
        if (k == NONE) {
            return terms;
        }
        return k < terms ? owner.termAt(member, k) : NOT_SO_MANY;
    }

    public int flat(int unit, int member, int what) {
        if (!world.isUnit(unit) || !isLetter(member) || what < 0 || what > 4) {
            return NONE;
        }
        settle();
        int kind = flats.kindOf(unit, member);
        if (kind == FLAT_NOTHING) {
            return NONE;
        }
        if (what == 0) {
            return kind;
        }
        if (kind == FLAT_REQUIRED || kind == FLAT_BODY && what > 2) {
            return OF_NO_SUCH_KIND;
        }
        int source = what <= 2 ? flats.firstSource(unit, member) : flats.secondSource(unit, member);
        return what == 1 || what == 3 ? source / LETTERS : source % LETTERS;
    }

    // ---- LINES and ORDERS

    public int line(int type, int k) {
        if (!world.isType(type) || k < NONE) {
            return NONE;
        }
        settle();
        return itemOrCount(lines.lines[type], lines.lengths[type], k);
    }

    public int ring(int type, int k) {
        if (!world.isType(type) || k < NONE) {
            return NONE;
        }
        settle();
        return itemOrCount(lines.rings[type], lines.ringLengths[type], k);
    }

    private static int itemOrCount(int[] items, int size, int k) {
        if (k == NONE) {
            return size;
        }
        return k >= 0 && k < size && k < items.length ? items[k] : NOT_SO_MANY;
    }

    public int over(int type) {
        if (!world.isType(type)) {
            return NONE;
        }
        settle();
        return lines.overBits[type];
    }

    public long orders(int type) {
        if (!world.isType(type)) {
            return NONE;
        }
        settle();
        ordering.prepare(world, lines.overBits[type]);
        return ordering.howMany();
    }

    public int first(int type, int k) {
        if (!world.isType(type)) {
            return NONE;
        }
        settle();
        ordering.prepare(world, lines.overBits[type]);
        return ordering.inFirst(k);
    }

    public int place(int type, int other) {
        if (!world.isType(type) || !world.isType(other)) {
            return NONE;
        }
        settle();
        if (!hasBit(lines.overBits[type], other)) {
            return NONE;
        }
        ordering.prepare(world, lines.overBits[type]);
        return ordering.placesOf(other);
    }

    // ---- SEND

    public int send(int type, int member, int what) {
        if (!world.isType(type) || !isLetter(member) || what < 0 || what > 5) {
            return NO_ANSWER;
        }
        settle();
        runSend(type, member);
        switch (what) {
            case 0: return sender.ending;
            case 1: return sender.value;
            case 2: return sender.calls;
            case 3: return sender.deepest;
            case 4: return sender.firstType;
            default: return sender.endDepth;
        }
    }

    private void runSend(int type, int member) {
        sender.run(world, flats, lines, type, member);
    }

    public int chain(int type, int member, int k) {
        if (!world.isType(type) || !isLetter(member) || k < NONE) {
            return NONE;
        }
        settle();
        if (lines.lengths[type] == 0) {
            return NONE;
        }
        int found = 0;
        for (int i = 0; i < lines.lengths[type]; i++) {
            int here = lines.lines[type][i];
            if (flats.kindOf(here, member) == FLAT_BODY) {
                if (found == k) {
                    return here;
                }
                found++;
            }
        }
        return k == NONE ? found : NOT_SO_MANY;
    }

    public int lacks(int type) {
        if (!world.isType(type)) {
            return NONE;
        }
        settle();
        return lines.lengths[type] == 0 ? NONE : lackedBits(type);
    }

    private int lackedBits(int type) {
        int required = bitsAlongLine(type, FLAT_REQUIRED);
        return required & ~bitsAlongLine(type, FLAT_BODY) & ~bitsAlongLine(type, FLAT_CONFLICT);
    }

    private int bitsAlongLine(int type, int kind) {
        int bits = 0;
        for (int i = 0; i < lines.lengths[type]; i++) {
            bits |= flats.bitsOf(lines.lines[type][i], kind);
        }
        return bits;
    }

    public int answers(int type) {
        if (!world.isType(type)) {
            return NONE;
        }
        settle();
        int bits = 0;
        for (int member = 0; member < LETTERS; member++) {
            runSend(type, member);
            if (sender.ending == WELL) {
                bits |= 1 << member;
            }
        }
        return bits;
    }

    public int alike(int type, int other) {
        if (!world.isType(type) || !world.isType(other)) {
            return NONE;
        }
        settle();
        for (int member = 0; member < LETTERS; member++) {
            runSend(type, member);
            int ending = sender.ending;
            int value = sender.value;
            runSend(other, member);
            if (sender.ending != ending || sender.value != value) {
                return 0;
            }
        }
        return 1;
    }

    public int origins(int type, int member) {
        if (!world.isType(type) || !isLetter(member)) {
            return NONE;
        }
        settle();
        runSend(type, member);
        return sender.originBits;
    }

    public long mean(int type) {
        if (!world.isType(type)) {
            return NAN_BITS;
        }
        settle();
        int calls = 0;
        int members = 0;
        for (int member = 0; member < LETTERS; member++) {
            runSend(type, member);
            if (sender.ending == WELL) {
                calls += sender.calls;
                members++;
            }
        }
        return quotientBits(calls, members);
    }

    /** The library at hand has no doubleToLongBits, so the quotient's bits are worked out one by one. */
    private static long quotientBits(int calls, int members) {
        // a member that ends well takes a call at least: the quotient is never below 1
        if (members <= 0 || calls < members) {
            return NAN_BITS;
        }
        long divisor = members;
        int exponent = 0;
        while (exponent < 31 && divisor * 2 <= calls) {
            divisor *= 2;
            exponent++;
        }
        long rest = calls - divisor;
        long fraction = 0;
        for (int bit = 0; bit < 52; bit++) {
            rest *= 2;
            fraction *= 2;
            if (rest >= divisor) {
                rest -= divisor;
                fraction++;
            }
        }
        // no quotient by 26 at most lies just between two doubles, so there is no half to round to even
        if (rest * 2 > divisor) {
            fraction++;
        }
        return ((1023L + exponent) << 52) + fraction;
    }

    // ---- the whole WORLD

    public int find(int name) {
        return world.indexOf(name);
    }

    public int count(int what) {
        settle();
        switch (what) {
            case 0: return world.size;
            case 1: return world.size - world.traitCount();
            case 2: return world.traitCount();
            case 3: return bitsWithoutLine();
            case 4: return bitsOfWhole();
            case 5: return longestLine();
            case 6: return conflictCount();
            case 7: return history.size;
            case 8: return tapeLength;
            case 9: return keptBits;
            case 10: return bitsOfLowest();
            default: return NONE;
        }
    }

    private int bitsWithoutLine() {
        int bits = 0;
        for (int unit = 0; unit < world.size; unit++) {
            if (world.isType(unit) && lines.lengths[unit] == 0) {
                bits |= 1 << unit;
            }
        }
        return bits;
    }

    private int bitsOfWhole() {
        int bits = 0;
        for (int unit = 0; unit < world.size; unit++) {
            boolean hasLine = world.isType(unit) && lines.lengths[unit] > 0;
            if (hasLine && lackedBits(unit) == 0 && bitsAlongLine(unit, FLAT_CONFLICT) == 0) {
                bits |= 1 << unit;
            }
        }
        return bits;
    }

    private int longestLine() {
        int longest = 0;
        for (int unit = 0; unit < world.size; unit++) {
            longest = Math.max(longest, lines.lengths[unit]);
        }
        return longest;
    }

    private int conflictCount() {
        int conflicts = 0;
        for (int unit = 0; unit < world.size; unit++) {
            conflicts += Integer.bitCount(flats.bitsOf(unit, FLAT_CONFLICT));
        }
        return conflicts;
    }

    private int bitsOfLowest() {
        int types = 0;
        int parents = 0;
        for (int unit = 0; unit < world.size; unit++) {
            if (world.isType(unit)) {
                types |= 1 << unit;
                parents |= lines.overBits[unit] & ~(1 << unit);
            }
        }
        return types & ~parents;
    }

    private void settle() {
        if (stale) {
            flats.layAll(world);
            lines.mergeAll(world);
            stale = false;
        }
    }

    private static boolean isLetter(int member) {
        return member >= 0 && member < LETTERS;
    }

    private static boolean hasBit(int bits, int place) {
        return (bits >> place & 1) != 0;
    }

    /** A row of unlike units: PARENTS, or TRAITS that are used. */
    private static final class Row {
        final int[] items = new int[MAX_IN_ROW];
        int size;

        int placeOf(int item) {
            for (int k = 0; k < size; k++) {
                if (items[k] == item) {
                    return k;
                }
            }
            return NONE;
        }

        int itemAt(int k) {
            return k >= 0 && k < size ? items[k] : NONE;
        }

        void add(int item) {
            if (size < MAX_IN_ROW) {
                items[size] = item;
                size++;
            }
        }

        void removeAt(int place) {
            if (place < 0 || place >= size) {
                return;
            }
            for (int k = place + 1; k < size; k++) {
                items[k - 1] = items[k];
            }
            size--;
        }

        void reverse() {
            for (int low = 0, high = size - 1; low < high; low++, high--) {
                int item = items[low];
                items[low] = items[high];
                items[high] = item;
            }
        }

        void copyFrom(Row other) {
            System.arraycopy(other.items, 0, items, 0, MAX_IN_ROW);
            size = other.size;
        }
    }

    /** What one UNIT is told to be. Callers hand in letters 0 to 25 and places within the row alone. */
    private static final class Unit {
        private static final int UNTOLD = -1;

        boolean trait;
        int name;
        int members;
        final Row parents = new Row();
        final Row traits = new Row();
        final int[] changes = new int[MAX_IN_ROW];
        /** Of each letter how many TERMS its BODY has: 0 it is REQUIRED, UNTOLD it is no own MEMBER. */
        final int[] termCounts = new int[LETTERS];
        private final int[] terms = new int[LETTERS * MAX_TERMS];
        private final int[] lettersThere = new int[MAX_IN_ROW * LETTERS];

        void open(boolean asTrait, int itsName) {
            trait = asTrait;
            name = itsName;
            members = 0;
            parents.size = 0;
            traits.size = 0;
            Arrays.fill(termCounts, UNTOLD);
        }

        boolean tells(int member) {
            return termCounts[member] != UNTOLD;
        }

        boolean requires(int member) {
            return termCounts[member] == 0;
        }

        boolean hasBody(int member) {
            return termCounts[member] > 0;
        }

        int termAt(int member, int k) {
            return terms[member * MAX_TERMS + k];
        }

        void require(int member) {
            if (!tells(member)) {
                members++;
            }
            termCounts[member] = 0;
        }

        /** What is told REQUIRED gets a BODY by its first TERM. */
        void addTerm(int member, int term) {
            int n = termCounts[member];
            if (n >= 0 && n < MAX_TERMS) {
                terms[member * MAX_TERMS + n] = term;
                termCounts[member] = n + 1;
            }
        }

        void forget(int member) {
            if (tells(member)) {
                members--;
            }
            termCounts[member] = UNTOLD;
        }

        int toldBits() {
            int bits = 0;
            for (int member = 0; member < LETTERS; member++) {
                if (tells(member)) {
                    bits |= 1 << member;
                }
            }
            return bits;
        }

        int requiredBits() {
            int bits = 0;
            for (int member = 0; member < LETTERS; member++) {
                if (requires(member)) {
                    bits |= 1 << member;
                }
            }
            return bits;
        }

        void addTrait(int used) {
            int k = traits.size;
            if (k >= MAX_IN_ROW) {
                return;
            }
            traits.add(used);
            changes[k] = 0;
            for (int member = 0; member < LETTERS; member++) {
                lettersThere[k * LETTERS + member] = member;
            }
        }

        /** NONE: it is left out. */
        int letterThere(int k, int member) {
            return lettersThere[k * LETTERS + member];
        }

        void setLetterThere(int k, int member, int to) {
            int cell = k * LETTERS + member;
            if (lettersThere[cell] != member) {
                changes[k]--;
            }
            if (to != member) {
                changes[k]++;
            }
            lettersThere[cell] = to;
        }

        void copyFrom(Unit other) {
            trait = other.trait;
            name = other.name;
            members = other.members;
            parents.copyFrom(other.parents);
            traits.copyFrom(other.traits);
            System.arraycopy(other.changes, 0, changes, 0, changes.length);
            System.arraycopy(other.termCounts, 0, termCounts, 0, termCounts.length);
            System.arraycopy(other.terms, 0, terms, 0, terms.length);
            System.arraycopy(other.lettersThere, 0, lettersThere, 0, lettersThere.length);
        }
    }

    /** A WORLD as it is told; all its units are made at once and used again. */
    private static final class World {
        final Unit[] units = new Unit[MAX_UNITS];
        int size;

        World() {
            for (int k = 0; k < MAX_UNITS; k++) {
                units[k] = new Unit();
            }
        }

        boolean isUnit(int unit) {
            return unit >= 0 && unit < size;
        }

        boolean isType(int unit) {
            return isUnit(unit) && !units[unit].trait;
        }

        boolean isTrait(int unit) {
            return isUnit(unit) && units[unit].trait;
        }

        int indexOf(int name) {
            for (int unit = 0; unit < size; unit++) {
                if (units[unit].name == name) {
                    return unit;
                }
            }
            return NONE;
        }

        int traitCount() {
            int traits = 0;
            for (int unit = 0; unit < size; unit++) {
                if (units[unit].trait) {
                    traits++;
                }
            }
            return traits;
        }

        void copyFrom(World other) {
            size = other.size;
            for (int unit = 0; unit < size; unit++) {
                units[unit].copyFrom(other.units[unit]);
            }
        }
    }

    /** The last ACTS: each changed one UNIT, which is held here as it was ahead of it. */
    private static final class History {
        private final Unit[] before = new Unit[MAX_UNDONE];
        private final int[] changed = new int[MAX_UNDONE];
        private int next;
        int size;

        History() {
            for (int k = 0; k < MAX_UNDONE; k++) {
                before[k] = new Unit();
            }
        }

        void forgetAll() {
            size = 0;
        }

        void record(int place, Unit unit) {
            before[next].copyFrom(unit);
            changed[next] = place;
            next = (next + 1) % MAX_UNDONE;
            size = Math.min(size + 1, MAX_UNDONE);
        }

        void restoreLast(World world) {
            next = (next + MAX_UNDONE - 1) % MAX_UNDONE;
            size--;
            world.units[changed[next]].copyFrom(before[next]);
        }
    }

    /** Reads the TAPE as a TEXT; at is the place of a token (or the end), sign its first byte. */
    private static final class Reader {
        private static final int WRONG = 1;
        private static final int NOT_AS_TOLD = 2;
        private static final int ONE_TOO_MANY = 3;
        private static final int ABOVE = -2;

        /** Stands at the end; a byte of a TAPE is -128 to 127 here. */
        private static final int NO_SIGN = 256;

        private byte[] tape;
        private int length;
        private int at;
        private int behind;
        private int sign;
        private int fault;
        private int changedBits;
        private World told;

        /** The FAULT, or 0, which is none: then the WORLD is as told. */
        int read(byte[] itsTape, int itsLength, World into) {
            tape = itsTape;
            length = Math.min(itsLength, tape.length);
            told = into;
            told.size = 0;
            fault = 0;
            behind = 0;
            pass();
            boolean more = at < length;
            for (int unit = 0; more && unit <= MAX_UNITS; unit++) {
                more = readUnit() && at < length && readBreak();
            }
            return fault;
        }

        private boolean readBreak() {
            if (sign != ';') {
                return refuse(WRONG);
            }
            pass();
            return true;
        }

        private boolean readUnit() {
            boolean trait = isWord("trait");
            if (!trait && !isWord("type")) {
                return refuse(WRONG);
            }
            if (told.size >= MAX_UNITS) {
                return refuse(ONE_TOO_MANY);
            }
            pass();
            int name = nameHere();
            if (name == NONE) {
                return refuse(WRONG);
            }
            if (told.indexOf(name) != NONE) {
                return refuse(NOT_AS_TOLD);
            }
            pass();
            Unit unit = told.units[told.size];
            unit.open(trait, name);
            boolean good = trait || !isWord("of") || readParents(unit);
            good = good && (!isWord("uses") || readTraits(unit));
            good = good && (sign != ':' || readMembers(unit));
            if (good) {
                told.size++;
            }
            return good;
        }

        private boolean readParents(Unit unit) {
            pass();
            for (int k = 0; k <= MAX_IN_ROW; k++) {
                if (nameHere() == NONE) {
                    return k > 0 || refuse(WRONG);
                }
                int parent = readOfRow(unit.parents, false);
                if (parent == NONE) {
                    return false;
                }
                unit.parents.add(parent);
            }
            return true;
        }

        private boolean readTraits(Unit unit) {
            pass();
            for (int k = 0; k <= MAX_IN_ROW; k++) {
                if (nameHere() == NONE) {
                    return k > 0 || refuse(WRONG);
                }
                int trait = readOfRow(unit.traits, true);
                if (trait == NONE) {
                    return false;
                }
                unit.addTrait(trait);
                if (sign == '(' && !readChanges(unit, k)) {
                    return false;
                }
            }
            return true;
        }

        /** The unit of the NAME here, if it may come into the row next; else NONE, and the FAULT is told. */
        private int readOfRow(Row row, boolean trait) {
            int unit = told.indexOf(nameHere());
            boolean fits = trait ? told.isTrait(unit) : told.isType(unit);
            if (!fits || row.placeOf(unit) != NONE) {
                refuse(NOT_AS_TOLD);
                return NONE;
            }
            if (row.size >= MAX_IN_ROW) {
                refuse(ONE_TOO_MANY);
                return NONE;
            }
            pass();
            return unit;
        }

        private boolean readChanges(Unit unit, int k) {
            pass();
            changedBits = 0;
            for (int n = 0; n <= MAX_CHANGES; n++) {
                if (n > 0 && sign == ')') {
                    pass();
                    return true;
                }
                if (!readChange(unit, k, n)) {
                    return false;
                }
            }
            return true;
        }

        private boolean readChange(Unit unit, int k, int n) {
            boolean out = sign == '-';
            if (out) {
                if (n >= MAX_CHANGES) {
                    return refuse(ONE_TOO_MANY);
                }
                pass();
            }
            int member = memberHere();
            if (member == NONE) {
                return refuse(WRONG);
            }
            if (hasBit(changedBits, member)) {
                return refuse(NOT_AS_TOLD);
            }
            if (n >= MAX_CHANGES) {
                return refuse(ONE_TOO_MANY);
            }
            changedBits |= 1 << member;
            pass();
            int to = NONE;
            if (!out) {
                if (sign != '>') {
                    return refuse(WRONG);
                }
                pass();
                to = memberHere();
                if (to == NONE) {
                    return refuse(WRONG);
                }
                pass();
            }
            unit.setLetterThere(k, member, to);
            return true;
        }

        private boolean readMembers(Unit unit) {
            pass();
            for (int n = 0; n <= MAX_MEMBERS; n++) {
                int member = memberHere();
                if (member == NONE) {
                    return n > 0 || refuse(WRONG);
                }
                if (unit.tells(member)) {
                    return refuse(NOT_AS_TOLD);
                }
                if (n >= MAX_MEMBERS) {
                    return refuse(ONE_TOO_MANY);
                }
                unit.require(member);
                pass();
                boolean hasBody = sign == '=';
                if (!hasBody && sign != '?') {
                    return refuse(WRONG);
                }
                pass();
                if (hasBody && !readTerms(unit, member)) {
                    return false;
                }
            }
            return true;
        }

        private boolean readTerms(Unit unit, int member) {
            for (int n = 0; n <= MAX_TERMS; n++) {
                int term = termHere();
                if (term < 0) {
                    return refuse(term == ABOVE ? NOT_AS_TOLD : WRONG);
                }
                if (n >= MAX_TERMS) {
                    return refuse(ONE_TOO_MANY);
                }
                unit.addTerm(member, term);
                pass();
                if (sign != '+') {
                    return true;
                }
                pass();
            }
            return true;
        }

        /** A TERM as body() answers it; NONE if none stands here, ABOVE for a NUMBER that is too great. */
        private int termHere() {
            if (sign >= '0' && sign <= '9') {
                return numberHere();
            }
            if (isWord("super")) {
                return SUPER;
            }
            int member = memberHere();
            return member == NONE ? NONE : FIRST_MEMBER + member;
        }

        private int numberHere() {
            int number = 0;
            for (int k = at; k < behind; k++) {
                number = number * 10 + tape[k] - '0';
                if (number > MAX_NUMBER) {
                    return ABOVE;
                }
            }
            return number;
        }

        private int nameHere() {
            return sign >= 'A' && sign <= 'Z' ? sign - 'A' : NONE;
        }

        private int memberHere() {
            return behind == at + 1 && sign >= 'a' && sign <= 'z' ? sign - 'a' : NONE;
        }

        private boolean isWord(String word) {
            if (behind - at != word.length()) {
                return false;
            }
            for (int k = 0; k < word.length(); k++) {
                if (tape[at + k] != word.charAt(k)) {
                    return false;
                }
            }
            return true;
        }

        /** On to the next token: a WORD, a NUMBER, or one byte alone. */
        private void pass() {
            at = behind;
            while (at < length && tape[at] == ' ') {
                at++;
            }
            behind = at;
            if (at >= length) {
                sign = NO_SIGN;
                return;
            }
            sign = tape[at];
            boolean word = sign >= 'a' && sign <= 'z';
            int low = word ? 'a' : '0';
            int high = word ? 'z' : '9';
            while (behind < length && tape[behind] >= low && tape[behind] <= high) {
                behind++;
            }
            if (behind == at) {
                behind++;
            }
        }

        private boolean refuse(int why) {
            fault = 8 * at + why;
            return false;
        }
    }

    /** What each UNIT has FLAT under each letter. A source is the UNIT that tells a BODY, by 26, and its letter. */
    private static final class Flats {
        private final int[] kinds = new int[MAX_UNITS * LETTERS];
        private final int[] firsts = new int[MAX_UNITS * LETTERS];
        private final int[] seconds = new int[MAX_UNITS * LETTERS];

        void layAll(World world) {
            Arrays.fill(kinds, FLAT_NOTHING);
            for (int unit = 0; unit < world.size; unit++) {
                layOwn(world.units[unit], unit);
                for (int k = 0; k < world.units[unit].traits.size; k++) {
                    layTrait(world.units[unit], unit, k);
                }
            }
        }

        private void layOwn(Unit told, int unit) {
            for (int member = 0; member < LETTERS; member++) {
                int cell = unit * LETTERS + member;
                if (told.hasBody(member)) {
                    kinds[cell] = FLAT_BODY;
                    firsts[cell] = cell;
                } else if (told.requires(member)) {
                    kinds[cell] = FLAT_REQUIRED;
                }
            }
        }

        private void layTrait(Unit told, int unit, int k) {
            int trait = told.traits.itemAt(k);
            for (int member = 0; member < LETTERS; member++) {
                int to = told.letterThere(k, member);
                if (to != NONE && !told.hasBody(to)) {
                    layOver(trait * LETTERS + member, unit * LETTERS + to);
                }
            }
        }

        private void layOver(int given, int cell) {
            int kind = kinds[given];
            if (kind == FLAT_REQUIRED && kinds[cell] == FLAT_NOTHING) {
                kinds[cell] = FLAT_REQUIRED;
            }
            if (kind == FLAT_BODY || kind == FLAT_CONFLICT) {
                addSource(cell, firsts[given]);
            }
            if (kind == FLAT_CONFLICT) {
                addSource(cell, seconds[given]);
            }
        }

        private void addSource(int cell, int source) {
            if (kinds[cell] == FLAT_NOTHING || kinds[cell] == FLAT_REQUIRED) {
                kinds[cell] = FLAT_BODY;
                firsts[cell] = source;
            } else if (kinds[cell] == FLAT_BODY && firsts[cell] != source) {
                kinds[cell] = FLAT_CONFLICT;
                seconds[cell] = source;
            }
        }

        int kindOf(int unit, int member) {
            return kinds[unit * LETTERS + member];
        }

        int firstSource(int unit, int member) {
            return firsts[unit * LETTERS + member];
        }

        int secondSource(int unit, int member) {
            return seconds[unit * LETTERS + member];
        }

        int bitsOf(int unit, int kind) {
            int bits = 0;
            for (int member = 0; member < LETTERS; member++) {
                if (kindOf(unit, member) == kind) {
                    bits |= 1 << member;
                }
            }
            return bits;
        }

        int bitsOfAll(int unit) {
            return bitsOf(unit, FLAT_BODY) | bitsOf(unit, FLAT_REQUIRED) | bitsOf(unit, FLAT_CONFLICT);
        }
    }

    /** The LINE of each TYPE, or its RING, and what stands over it. */
    private static final class Lines {
        private static final int MAX_ROWS = MAX_IN_ROW + 1;

        final int[][] lines = new int[MAX_UNITS][MAX_UNITS];
        final int[] lengths = new int[MAX_UNITS];
        final int[][] rings = new int[MAX_UNITS][MAX_UNITS];
        final int[] ringLengths = new int[MAX_UNITS];
        final int[] overBits = new int[MAX_UNITS];
        private final int[][] rows = new int[MAX_ROWS][MAX_UNITS];
        private final int[] heads = new int[MAX_ROWS];
        private final int[] ends = new int[MAX_ROWS];
        private final int[] path = new int[MAX_UNITS];
        private int rowCount;

        void mergeAll(World world) {
            for (int unit = 0; unit < world.size; unit++) {
                lengths[unit] = 0;
                ringLengths[unit] = 0;
                overBits[unit] = 0;
                if (world.isType(unit)) {
                    Row parents = world.units[unit].parents;
                    gatherOver(unit, parents);
                    if (loadRows(parents)) {
                        merge(unit);
                    }
                }
            }
        }

        private void gatherOver(int type, Row parents) {
            int bits = 1 << type;
            for (int k = 0; k < parents.size; k++) {
                bits |= overBits[parents.items[k]];
            }
            overBits[type] = bits;
        }

        /** False if a PARENT has no LINE. */
        private boolean loadRows(Row parents) {
            rowCount = parents.size + 1;
            for (int k = 0; k < parents.size; k++) {
                int parent = parents.items[k];
                if (lengths[parent] == 0) {
                    return false;
                }
                System.arraycopy(lines[parent], 0, rows[k], 0, lengths[parent]);
                heads[k] = 0;
                ends[k] = lengths[parent];
            }
            System.arraycopy(parents.items, 0, rows[parents.size], 0, parents.size);
            heads[parents.size] = 0;
            ends[parents.size] = parents.size;
            return true;
        }

        private void merge(int type) {
            int[] line = lines[type];
            line[0] = type;
            int length = 1;
            for (int next = freeHead(); next != NONE && length < MAX_UNITS; next = freeHead()) {
                line[length] = next;
                length++;
                dropHead(next);
            }
            int left = firstRowLeft();
            if (left == NONE) {
                lengths[type] = length;
            } else {
                ringFrom(type, rows[left][heads[left]]);
            }
        }

        private int freeHead() {
            for (int row = 0; row < rowCount; row++) {
                if (heads[row] < ends[row]) {
                    int head = rows[row][heads[row]];
                    if (rowWithInTail(head) == NONE) {
                        return head;
                    }
                }
            }
            return NONE;
        }

        private int rowWithInTail(int type) {
            for (int row = 0; row < rowCount; row++) {
                for (int k = heads[row] + 1; k < ends[row]; k++) {
                    if (rows[row][k] == type) {
                        return row;
                    }
                }
            }
            return NONE;
        }

        private void dropHead(int type) {
            for (int row = 0; row < rowCount; row++) {
                if (heads[row] < ends[row] && rows[row][heads[row]] == type) {
                    heads[row]++;
                }
            }
        }

        private int firstRowLeft() {
            for (int row = 0; row < rowCount; row++) {
                if (heads[row] < ends[row]) {
                    return row;
                }
            }
            return NONE;
        }

        private void ringFrom(int type, int start) {
            int current = start;
            int steps = 0;
            int seen = 0;
            while (steps < MAX_UNITS && !hasBit(seen, current)) {
                path[steps] = current;
                steps++;
                seen |= 1 << current;
                int row = rowWithInTail(current);
                // each head that is left stands in a tail, else MERGING had not stopped
                current = row == NONE ? current : rows[row][heads[row]];
            }
            int from = 0;
            while (from < steps && path[from] != current) {
                from++;
            }
            System.arraycopy(path, from, rings[type], 0, steps - from);
            ringLengths[type] = steps - from;
        }
    }

    /** The ORDERS of what stands over one TYPE. */
    private static final class Orders {
        /** Of each TYPE all that must stand ahead of it, as bits. */
        private final int[] ahead = new int[MAX_UNITS];
        private final int[] ways = new int[1 << MAX_UNITS];
        private int members;

        void prepare(World world, int overBits) {
            members = overBits;
            Arrays.fill(ahead, 0);
            for (int type = 0; type < world.size; type++) {
                if (hasBit(members, type)) {
                    tellParents(type, world.units[type].parents);
                }
            }
            closeAhead();
        }

        private void tellParents(int type, Row parents) {
            int before = 1 << type;
            for (int k = 0; k < parents.size; k++) {
                int parent = parents.items[k];
                ahead[parent] |= before;
                before |= 1 << parent;
            }
        }

        private void closeAhead() {
            for (int middle = 0; middle < MAX_UNITS; middle++) {
                for (int type = 0; type < MAX_UNITS; type++) {
                    if (hasBit(ahead[type], middle)) {
                        ahead[type] |= ahead[middle];
                    }
                }
            }
        }

        private boolean hasNone() {
            for (int type = 0; type < MAX_UNITS; type++) {
                if (hasBit(ahead[type], type)) {
                    return true;
                }
            }
            return false;
        }

        /** Ways to fill each set of TYPES that can stand in front; 11 of them may be free, so an int holds it. */
        long howMany() {
            if (hasNone()) {
                return 0;
            }
            Arrays.fill(ways, 0);
            ways[0] = 1;
            for (int front = 0; front < members; front++) {
                if (ways[front] != 0) {
                    addNext(front);
                }
            }
            return ways[members];
        }

        private void addNext(int front) {
            for (int type = 0; type < MAX_UNITS; type++) {
                if (canFollow(front, type)) {
                    ways[front | 1 << type] += ways[front];
                }
            }
        }

        private boolean canFollow(int front, int type) {
            return hasBit(members & ~front, type) && (ahead[type] & ~front) == 0;
        }

        int inFirst(int k) {
            if (k < 0 || k >= Integer.bitCount(members) || hasNone()) {
                return NONE;
            }
            int front = 0;
            int last = NONE;
            for (int n = 0; n <= k; n++) {
                last = leastThatCanFollow(front);
                if (last == NONE) {
                    return NONE;
                }
                front |= 1 << last;
            }
            return last;
        }

        private int leastThatCanFollow(int front) {
            for (int type = 0; type < MAX_UNITS; type++) {
                if (canFollow(front, type)) {
                    return type;
                }
            }
            return NONE;
        }

        /** What must stand neither ahead nor behind can come on either side, one by one: no place between is missed. */
        int placesOf(int other) {
            if (hasNone()) {
                return 0;
            }
            int behind = 0;
            for (int type = 0; type < MAX_UNITS; type++) {
                if (hasBit(ahead[type], other)) {
                    behind++;
                }
            }
            int least = Integer.bitCount(ahead[other]);
            int greatest = Integer.bitCount(members) - 1 - behind;
            int bits = 0;
            for (int place = least; place <= greatest; place++) {
                bits |= 1 << place;
            }
            return bits;
        }
    }

    /** One SEND and all that is asked of it. */
    private static final class Sender {
        private World world;
        private Flats flats;
        private Lines lines;
        private int receiver;
        int ending;
        int value;
        int calls;
        int deepest;
        int firstType;
        int endDepth;
        int originBits;

        void run(World itsWorld, Flats itsFlats, Lines itsLines, int type, int member) {
            world = itsWorld;
            flats = itsFlats;
            lines = itsLines;
            receiver = type;
            ending = WELL;
            calls = 0;
            deepest = NONE;
            firstType = NONE;
            endDepth = NONE;
            originBits = 0;
            value = 0;
            if (lines.lengths[type] == 0) {
                ending = WITHOUT_LINE;
                return;
            }
            int sum = lookFor(member, 0, 0);
            value = ending == WELL ? sum : 0;
        }

        private int lookFor(int member, int from, int depth) {
            if (depth >= MAX_DEPTH || calls >= MAX_CALLS) {
                return stop(TOO_DEEP_OR_LONG, depth);
            }
            calls++;
            deepest = Math.max(deepest, depth);
            boolean required = false;
            for (int k = from; k < lines.lengths[receiver]; k++) {
                int kind = flats.kindOf(lines.lines[receiver][k], member);
                if (kind == FLAT_BODY) {
                    return addTerms(member, k, depth);
                }
                if (kind == FLAT_CONFLICT) {
                    return stop(IN_CONFLICT, depth);
                }
                required = required || kind == FLAT_REQUIRED;
            }
            return stop(required ? ONLY_REQUIRED : NOBODY, depth);
        }

        private int addTerms(int member, int k, int depth) {
            int type = lines.lines[receiver][k];
            int source = flats.firstSource(type, member);
            Unit teller = world.units[source / LETTERS];
            int letter = source % LETTERS;
            originBits |= 1 << source / LETTERS;
            if (depth == 0) {
                firstType = type;
            }
            int sum = 0;
            for (int n = 0; n < teller.termCounts[letter] && ending == WELL; n++) {
                int term = teller.termAt(letter, n);
                if (term < SUPER) {
                    sum += term;
                } else if (term == SUPER) {
                    sum += lookFor(member, k + 1, depth + 1);
                } else {
                    sum += lookFor(term - FIRST_MEMBER, 0, depth + 1);
                }
            }
            return sum;
        }

        private int stop(int why, int depth) {
            ending = why;
            endDepth = depth;
            return 0;
        }
    }
}
