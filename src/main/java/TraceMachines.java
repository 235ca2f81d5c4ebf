import java.util.Arrays;
import java.util.NoSuchElementException;

/** Machines found from runs: TRACES of CALLS, folded to STATES by what follows them to a DEPTH. */
public final class TraceMachines {
    public static final int NONE = -1;

    private static final int NO_NUMBER = -1;
    private static final int NO_SUCH = -2;
    private static final int ALREADY = -3;
    private static final int TOO_MANY = -2;
    private static final int LOST = -2;
    private static final int FAULT = -1000;

    private static final int MOST_SIGNS = 240;
    private static final int MOST_TRACES = 20;
    private static final int MOST_CALLS = 12;
    private static final int MOST_PREFIXES = MOST_TRACES * MOST_CALLS + 1;
    private static final int MOST_EDGES = MOST_PREFIXES - 1;
    private static final int MOST_UNDONE = 8;
    private static final int MOST_KEPT = 2;
    private static final int MOST_LETTERS = 8;
    private static final int MOST_SETS = 100;
    private static final int MOST_TWOS = 400;
    private static final int MOST_WAYS = 1000000;
    private static final int MOST_SEEDS = 1000000;

    private static final int LETTERS = 10;
    private static final int DEPTHS = 4;
    private static final int KINDS = 6;
    private static final int GREATEST_MARGIN = 20;
    private static final int GREATEST_VALUE = 99;
    /** So wide that every RANGE has every VALUE: a run that is not GUARDED is one with this MARGIN. */
    private static final int ANY_VALUE = 100;
    private static final int WEAKNESS_WITHOUT_CALLS = 999;

    private final Text text = new Text();
    private final Traces now = new Traces();
    private final Traces read = new Traces();
    private final Traces[] past = new Traces[MOST_UNDONE];
    private int pastNext;
    private int pastCount;
    /** null under a number: nothing is kept there yet. */
    private final Traces[] kept = new Traces[MOST_KEPT];

    private final Tree tree = new Tree();
    private final Follows follows = new Follows();
    private final Machine[] machines = new Machine[DEPTHS];
    private final Tree treeOfOthers = new Tree();
    private final Machine machineOfOthers = new Machine();
    private final StateSets running = new StateSets(2, 1);
    private final int[] ran = new int[3];

    private final Words wordsFound = new Words();
    private final Parting parting = new Parting();
    private final Cover covering = new Cover();
    private final Pair pair = new Pair();
    private final Odds odds = new Odds();
    /** How many TRACES HELD OUT are TAKEN: by DEPTH, not GUARDED first, then GUARDED; NONE: not asked yet. */
    private final int[] fits = new int[2 * DEPTHS];

    public TraceMachines() {
        for (int i = 0; i < MOST_UNDONE; i++) {
            past[i] = new Traces();
        }
        for (int k = 0; k < DEPTHS; k++) {
            machines[k] = new Machine();
        }
        Arrays.fill(ran, NONE);
        Arrays.fill(fits, NONE);
    }

    public int sign(int v) {
        return text.put(v) ? text.length : NONE;
    }

    public boolean end(int n) {
        return text.cut(n);
    }

    public int traces() {
        read.copyFrom(now);
        int fault = text.parse(read, false);
        text.cut(0);
        if (fault != NONE) {
            return FAULT - fault;
        }
        remember();
        now.copyFrom(read);
        forgetFound();
        return now.count;
    }

    public int drop(int trace) {
        if (!now.has(trace)) {
            return NO_SUCH;
        }
        remember();
        now.remove(trace);
        forgetFound();
        return now.count;
    }

    public int depth(int k) {
        if (!isDepth(k)) {
            return NO_NUMBER;
        }
        int was = now.depth;
        if (was == k) {
            return ALREADY;
        }
        remember();
        now.depth = k;
        forgetFound();
        return was;
    }

    public int margin(int w) {
        if (w < 0 || w > GREATEST_MARGIN) {
            return NO_NUMBER;
        }
        int was = now.margin;
        if (was == w) {
            return ALREADY;
        }
        remember();
        now.margin = w;
        forgetFound();
        return was;
    }

    public int undo() {
        if (pastCount == 0) {
            return ALREADY;
        }
        pastCount--;
        pastNext = pastNext == 0 ? MOST_UNDONE - 1 : pastNext - 1;
        now.copyFrom(past[pastNext]);
        forgetFound();
        return pastCount;
    }

    // ---- what there is

    public int call(int trace, int i, int what) throws NoSuchElementException {
        if (!now.has(trace)) {
            throw new NoSuchElementException("no such trace");
        }
        if (i == NONE && what == 0) {
            return now.lengths[trace];
        }
        if (i < 0 || i >= now.lengths[trace]) {
            return NONE;
        }
        switch (what) {
            case 0:
                return signOf(now.letterAt(trace, i));
            case 1:
                return now.valueAt(trace, i);
            case 2:
                machine(now.depth);
                return tree.prefixAt(trace, i + 1);
            case 3:
                Machine machine = machine(now.depth);
                return machine.stateOf[tree.prefixAt(trace, i + 1)];
            default:
                return NONE;
        }
    }

    public int state(int state, int what) {
        Machine machine = machine(now.depth);
        if (state < 0 || state >= machine.states) {
            return NONE;
        }
        switch (what) {
            case 0:
                return machine.leastPrefix[state];
            case 1:
                return machine.prefixes[state];
            case 2:
                return machine.enders[state] > 0 ? 1 : 0;
            case 3:
                return machine.enders[state];
            case 4:
                return machine.firstEdge[state + 1] - machine.firstEdge[state];
            case 5:
                return machine.leavers(state);
            case 6:
                return machine.rows[state];
            default:
                return NONE;
        }
    }

    public int edge(int i, int what) {
        Machine machine = machine(now.depth);
        if (i < 0 || i >= machine.edges) {
            return NONE;
        }
        switch (what) {
            case 0:
                return machine.from(i);
            case 1:
                return signOf(machine.letter(i));
            case 2:
                return machine.to(i);
            case 3:
                return machine.support[i];
            case 4:
                return machine.low[i];
            case 5:
                return machine.high[i];
            default:
                return NONE;
        }
    }

    public int vague(int what) {
        if (what == 0) {
            return machine(now.depth).forks(ANY_VALUE);
        }
        return what == 1 ? machine(now.depth).forks(now.margin) : NONE;
    }

    // ---- runs

    public int run(boolean guarded) {
        read.count = 0;
        int fault = text.parse(read, true);
        text.cut(0);
        if (fault != NONE) {
            return FAULT - fault;
        }
        int failed = machine(now.depth).failsAt(read, 0, slack(guarded), running);
        ran[0] = failed;
        ran[1] = running.size(0);
        ran[2] = running.least(0);
        return failed == NONE ? 1 : 0;
    }

    public int ran(int what) {
        return what >= 0 && what < ran.length ? ran[what] : NONE;
    }

    public int cover(int what) {
        if (what != 0 && what != 1) {
            return NONE;
        }
        Machine machine = machine(now.depth);
        if (!covering.known) {
            covering.find(now, tree, machine);
        }
        return what == 0 ? Integer.bitCount(covering.best) : covering.best;
    }

    public int ways(int trace) {
        return now.has(trace) ? wordsFound.waysOf(now, trace, machine(now.depth)) : NONE;
    }

    // ---- words

    public int words(int n) {
        return n >= 0 && n <= MOST_LETTERS ? wordsFound.number(machine(now.depth), n) : NONE;
    }

    public int apart(int k, int other, int i) {
        if (!isDepth(k) || !isDepth(other)) {
            return NONE;
        }
        if (!parting.isOf(k, other)) {
            parting.find(machine(k), machine(other));
            parting.setOf(k, other);
        }
        int letters = parting.letters;
        if (letters == TOO_MANY || i == NONE) {
            return letters;
        }
        return i >= 0 && i < letters ? signOf(parting.word[i]) : NONE;
    }

    public int walk(int seed, int i) {
        if (seed < 0 || seed >= MOST_SEEDS || now.count == 0) {
            return NONE;
        }
        int letters = wordsFound.draw(machine(now.depth), seed);
        if (i == NONE) {
            return letters;
        }
        int told = letters == LOST ? MOST_CALLS : letters;
        return i >= 0 && i < told ? signOf(wordsFound.path[i]) : NONE;
    }

    // ---- rules

    public int rule(int kind, int x, int y, int what) {
        if (!isKind(kind) || !isLetter(x) || !isLetter(y) || x == y) {
            return NONE;
        }
        if (what != 0 && what != 1) {
            return NONE;
        }
        pair.tally(now, kind, x, y);
        return what == 0 ? pair.asked : pair.so;
    }

    public int rules(int kind, int least, int i) {
        if (!isKind(kind) || least < 1 || least > MOST_TRACES || i < NONE) {
            return NONE;
        }
        int found = 0;
        for (int xy = 0; xy < LETTERS * LETTERS; xy++) {
            int x = xy / LETTERS;
            int y = xy % LETTERS;
            if (x != y && pair.stands(now, kind, x, y, least)) {
                if (found == i) {
                    return xy;
                }
                found++;
            }
        }
        return i == NONE ? found : NONE;
    }

    // ---- odd ones, those held out

    public int odd(int trace, int what) {
        if (!now.has(trace) || what < 0 || what > 2) {
            return NONE;
        }
        odds.weigh(now, tree, machine(now.depth));
        switch (what) {
            case 0:
                return odds.weakness[trace];
            case 1:
                return odds.calls[trace];
            default:
                return odds.placeOf(trace);
        }
    }

    public int oddest(int i) {
        if (!now.has(i)) {
            return NONE;
        }
        odds.weigh(now, tree, machine(now.depth));
        for (int trace = 0; trace < now.count; trace++) {
            if (odds.placeOf(trace) == i) {
                return trace;
            }
        }
        return NONE;
    }

    public int held(int trace, int k, boolean guarded) {
        if (!now.has(trace) || !isDepth(k)) {
            return NONE;
        }
        foldOthers(trace, k);
        return takenByOthers(trace, guarded) ? 1 : 0;
    }

    public int fit(int k, int what) {
        if (!isDepth(k)) {
            return NONE;
        }
        switch (what) {
            case 0:
                return fitting(k, false);
            case 1:
                return fitting(k, true);
            case 2:
                return machine(k).states;
            default:
                return NONE;
        }
    }

    public int best(int what) {
        if (now.count == 0 || (what != 0 && what != 1)) {
            return NONE;
        }
        int best = 0;
        for (int k = 1; k < DEPTHS; k++) {
            int more = fitting(k, false) - fitting(best, false);
            if (more > 0 || (more == 0 && machine(k).states > machine(best).states)) {
                best = k;
            }
        }
        return what == 0 ? best : fitting(best, false);
    }

    // ---- kept

    public boolean keep(int k) {
        if (k < 0 || k >= MOST_KEPT) {
            return false;
        }
        if (kept[k] == null) {
            kept[k] = new Traces();
        }
        kept[k].copyFrom(now);
        return true;
    }

    public boolean again(int k) {
        if (k < 0 || k >= MOST_KEPT || kept[k] == null) {
            return false;
        }
        now.copyFrom(kept[k]);
        pastCount = 0;
        forgetFound();
        return true;
    }

    public int count(int what) {
        switch (what) {
            case 0:
                return now.count;
            case 1:
                return now.allCalls();
            case 2:
                machine(now.depth);
                return tree.prefixes;
            case 3:
                return machine(now.depth).states;
            case 4:
                return machine(now.depth).edges;
            case 5:
                return machine(now.depth).finalStates();
            case 6:
                return now.depth;
            case 7:
                return now.margin;
            case 8:
                return text.length;
            case 9:
                return pastCount;
            default:
                return NONE;
        }
    }

    // ---- what the calls share

    private static boolean isDepth(int k) {
        return k >= 0 && k < DEPTHS;
    }

    private static boolean isKind(int kind) {
        return kind >= 0 && kind < KINDS;
    }

    private static boolean isLetter(int letter) {
        return letter >= 0 && letter < LETTERS;
    }

    private static int signOf(int letter) {
        return 'a' + letter;
    }

    private int slack(boolean guarded) {
        return guarded ? now.margin : ANY_VALUE;
    }

    /** Before an act is done: the ring of the latest acts loses its oldest when it is full. */
    private void remember() {
        past[pastNext].copyFrom(now);
        pastNext = pastNext == MOST_UNDONE - 1 ? 0 : pastNext + 1;
        if (pastCount < MOST_UNDONE) {
            pastCount++;
        }
    }

    /** What was found from TRACES, DEPTH and MARGIN as they were is found anew when it is asked. */
    private void forgetFound() {
        tree.known = false;
        for (int k = 0; k < DEPTHS; k++) {
            machines[k].known = false;
        }
        parting.known = false;
        covering.known = false;
        Arrays.fill(fits, NONE);
    }

    private Machine machine(int k) {
        Machine machine = machines[k];
        if (!tree.known) {
            tree.grow(now, NONE);
        }
        if (!machine.known) {
            machine.fold(now, tree, follows, k);
        }
        return machine;
    }

    private void foldOthers(int trace, int k) {
        treeOfOthers.grow(now, trace);
        machineOfOthers.fold(now, treeOfOthers, follows, k);
    }

    private boolean takenByOthers(int trace, boolean guarded) {
        return machineOfOthers.failsAt(now, trace, slack(guarded), running) == NONE;
    }

    /** A machine of others is far dearer than a run on it: so it is asked both ways at once. */
    private int fitting(int k, boolean guarded) {
        int free = 2 * k;
        if (fits[free] == NONE) {
            fits[free] = 0;
            fits[free + 1] = 0;
            for (int trace = 0; trace < now.count; trace++) {
                foldOthers(trace, k);
                if (takenByOthers(trace, false)) {
                    fits[free]++;
                }
                if (takenByOthers(trace, true)) {
                    fits[free + 1]++;
                }
            }
        }
        return guarded ? fits[free + 1] : fits[free];
    }

    /** TRACES with the DEPTH and the MARGIN by which they are looked at: all that acts change. */
    private static final class Traces {
        int count;
        int depth = 1;
        int margin;
        final int[] lengths = new int[MOST_TRACES];
        final int[] letters = new int[MOST_TRACES * MOST_CALLS];
        final int[] values = new int[MOST_TRACES * MOST_CALLS];

        void copyFrom(Traces other) {
            count = other.count;
            depth = other.depth;
            margin = other.margin;
            System.arraycopy(other.lengths, 0, lengths, 0, count);
            System.arraycopy(other.letters, 0, letters, 0, count * MOST_CALLS);
            System.arraycopy(other.values, 0, values, 0, count * MOST_CALLS);
        }

        boolean has(int trace) {
            return trace >= 0 && trace < count;
        }

        int letterAt(int trace, int i) {
            return letters[trace * MOST_CALLS + i];
        }

        int valueAt(int trace, int i) {
            return values[trace * MOST_CALLS + i];
        }

        int allCalls() {
            int calls = 0;
            for (int trace = 0; trace < count; trace++) {
                calls += lengths[trace];
            }
            return calls;
        }

        /** A TRACE without CALLS comes; false: there is no room. */
        boolean open() {
            if (count == MOST_TRACES) {
                return false;
            }
            lengths[count] = 0;
            count++;
            return true;
        }

        /** A CALL comes behind the last TRACE's; false: there is no room. */
        boolean add(int letter) {
            int last = count - 1;
            if (last < 0 || lengths[last] == MOST_CALLS) {
                return false;
            }
            int at = last * MOST_CALLS + lengths[last];
            letters[at] = letter;
            values[at] = 0;
            lengths[last]++;
            return true;
        }

        /** A digit comes behind the VALUE of the last CALL. */
        void addDigit(int digit) {
            int last = count - 1;
            if (last >= 0 && lengths[last] > 0) {
                int at = last * MOST_CALLS + lengths[last] - 1;
                values[at] = 10 * values[at] + digit;
            }
        }

        void remove(int trace) {
            int behind = count - trace - 1;
            int to = trace * MOST_CALLS;
            System.arraycopy(lengths, trace + 1, lengths, trace, behind);
            System.arraycopy(letters, to + MOST_CALLS, letters, to, behind * MOST_CALLS);
            System.arraycopy(values, to + MOST_CALLS, values, to, behind * MOST_CALLS);
            count--;
        }
    }

    /** THE TEXT. */
    private static final class Text {
        private static final int MOST_DIGITS = 2;

        int length;
        private final char[] signs = new char[MOST_SIGNS];

        boolean put(int v) {
            if (length + 4 > MOST_SIGNS) {
                return false;
            }
            for (int shift = 24; shift >= 0; shift -= 8) {
                signs[length] = (char) ((v >>> shift) & 255);
                length++;
            }
            return true;
        }

        boolean cut(int n) {
            if (n < 0 || n > length) {
                return false;
            }
            length = n;
            return true;
        }

        /**
         * TRACES (or the single one) come behind those of into: where the FAULT is, or NONE.
         * A blank is no sign of a TRACE: one for which there is no room is met behind its blanks.
         */
        int parse(Traces into, boolean single) {
            boolean opened = false;
            int digitsLeft = 0;
            for (int p = 0; p < length; p++) {
                int sign = signs[p];
                if (digitsLeft > 0 && sign >= '0' && sign <= '9') {
                    into.addDigit(sign - '0');
                    digitsLeft--;
                    continue;
                }
                digitsLeft = 0;
                if (sign == ' ') {
                    continue;
                }
                if (!opened && !into.open()) {
                    return p;
                }
                opened = true;
                if (sign == ';' && !single) {
                    opened = false;
                } else if (isLetter(sign - 'a') && into.add(sign - 'a')) {
                    digitsLeft = MOST_DIGITS;
                } else {
                    return p;
                }
            }
            return opened || into.open() ? NONE : length;
        }
    }

    /** PREFIXES of TRACES, all or all but one. */
    private static final class Tree {
        private static final int PLACES = MOST_CALLS + 1;

        boolean known;
        int without;
        int prefixes;
        final int[] parent = new int[MOST_PREFIXES];
        final int[] letter = new int[MOST_PREFIXES];
        final int[] goers = new int[MOST_PREFIXES];
        final int[] enders = new int[MOST_PREFIXES];
        final int[] low = new int[MOST_PREFIXES];
        final int[] high = new int[MOST_PREFIXES];
        private final int[] longer = new int[MOST_PREFIXES * LETTERS];
        private final int[] places = new int[MOST_TRACES * PLACES];

        /** The PREFIX of a TRACE's first CALLS. */
        int prefixAt(int trace, int calls) {
            return places[trace * PLACES + calls];
        }

        void grow(Traces traces, int leftOut) {
            known = true;
            without = leftOut;
            prefixes = 0;
            for (int trace = 0; trace < traces.count; trace++) {
                if (trace != without) {
                    follow(traces, trace);
                }
            }
        }

        private void follow(Traces traces, int trace) {
            if (prefixes == 0) {
                addPrefix(NONE, NONE);
            }
            int prefix = 0;
            int length = traces.lengths[trace];
            places[trace * PLACES] = prefix;
            goers[prefix]++;
            for (int i = 0; i < length; i++) {
                prefix = stepFrom(prefix, traces.letterAt(trace, i));
                places[trace * PLACES + i + 1] = prefix;
                goers[prefix]++;
                int value = traces.valueAt(trace, i);
                low[prefix] = Math.min(low[prefix], value);
                high[prefix] = Math.max(high[prefix], value);
            }
            enders[prefix]++;
        }

        private int stepFrom(int prefix, int by) {
            int at = prefix * LETTERS + by;
            if (longer[at] == NONE) {
                longer[at] = addPrefix(prefix, by);
            }
            return longer[at];
        }

        private int addPrefix(int from, int by) {
            int prefix = prefixes;
            prefixes++;
            parent[prefix] = from;
            letter[prefix] = by;
            goers[prefix] = 0;
            enders[prefix] = 0;
            low[prefix] = GREATEST_VALUE;
            high[prefix] = 0;
            for (int i = 0; i < LETTERS; i++) {
                longer[prefix * LETTERS + i] = NONE;
            }
            return prefix;
        }
    }

    /** WHAT FOLLOWS each PREFIX: its rows in order, each once. */
    private static final class Follows {
        private static final int SLOTS = 512;
        private static final int BASE = LETTERS + 1;

        final int[] counts = new int[MOST_PREFIXES];
        private final int[] rows = new int[MOST_PREFIXES * MOST_TRACES];
        private final int[] slots = new int[SLOTS];

        void gather(Traces traces, Tree tree, int k) {
            Arrays.fill(slots, NONE);
            for (int prefix = 0; prefix < tree.prefixes; prefix++) {
                counts[prefix] = 0;
            }
            for (int trace = 0; trace < traces.count; trace++) {
                if (trace != tree.without) {
                    for (int i = 0; i <= traces.lengths[trace]; i++) {
                        insert(tree.prefixAt(trace, i), rowOf(traces, trace, i, k));
                    }
                }
            }
        }

        /** The digits stand for LETTERS, 0 for what is missing behind an END: so rows that differ do as numbers. */
        private static int rowOf(Traces traces, int trace, int from, int k) {
            int row = 0;
            for (int i = from; i < from + k; i++) {
                int digit = i < traces.lengths[trace] ? traces.letterAt(trace, i) + 1 : 0;
                row = row * BASE + digit;
            }
            return row;
        }

        private void insert(int prefix, int row) {
            int start = prefix * MOST_TRACES;
            int at = start + counts[prefix];
            while (at > start && rows[at - 1] > row) {
                at--;
            }
            if (at > start && rows[at - 1] == row) {
                return;
            }
            for (int i = start + counts[prefix]; i > at; i--) {
                rows[i] = rows[i - 1];
            }
            rows[at] = row;
            counts[prefix]++;
        }

        /** The first PREFIX asked since gather() that has the same rows; the PREFIX itself, if it is the first. */
        int firstLike(int prefix) {
            int hash = hashOf(prefix);
            for (int i = 0; i < SLOTS; i++) {
                int slot = (hash + i) & (SLOTS - 1);
                int other = slots[slot];
                if (other == NONE) {
                    slots[slot] = prefix;
                    return prefix;
                }
                if (isLike(prefix, other)) {
                    return other;
                }
            }
            return prefix;
        }

        private int hashOf(int prefix) {
            int hash = 0;
            int start = prefix * MOST_TRACES;
            for (int i = start; i < start + counts[prefix]; i++) {
                hash = 31 * hash + rows[i] + 1;
            }
            return hash ^ (hash >>> 9);
        }

        private boolean isLike(int prefix, int other) {
            if (counts[prefix] != counts[other]) {
                return false;
            }
            for (int i = 0; i < counts[prefix]; i++) {
                if (rows[prefix * MOST_TRACES + i] != rows[other * MOST_TRACES + i]) {
                    return false;
                }
            }
            return true;
        }
    }

    /** Rows of sets of STATES, each row of as many parts as machines are run side by side. */
    private static final class StateSets {
        static final int LONGS = 4;

        int count;
        private final int width;
        private final int room;
        private final long[] bits;
        private final int[] slots;

        StateSets(int room, int parts) {
            this.room = room;
            width = parts * LONGS;
            bits = new long[room * width];
            int size = 2;
            while (size < 2 * room) {
                size = 2 * size;
            }
            slots = new int[size];
        }

        /** All rows are free to be found by indexOf() anew. */
        void forget() {
            count = 0;
            Arrays.fill(slots, NONE);
        }

        void clear() {
            Arrays.fill(bits, 0L);
        }

        void put(int row, int part, int state) {
            bits[row * width + part * LONGS + (state >> 6)] |= 1L << (state & 63);
        }

        long longAt(int row, int part, int i) {
            return bits[row * width + part * LONGS + i];
        }

        int size(int row) {
            int size = 0;
            for (int i = 0; i < width; i++) {
                size += Long.bitCount(bits[row * width + i]);
            }
            return size;
        }

        boolean isEmpty(int row) {
            for (int i = 0; i < width; i++) {
                if (bits[row * width + i] != 0) {
                    return false;
                }
            }
            return true;
        }

        int least(int row) {
            for (int i = 0; i < width; i++) {
                long some = bits[row * width + i];
                if (some != 0) {
                    return 64 * i + lowest(some);
                }
            }
            return NONE;
        }

        static int lowest(long some) {
            return Long.bitCount((some & -some) - 1);
        }

        void moveRow(int from, int to) {
            for (int i = 0; i < width; i++) {
                bits[to * width + i] = bits[from * width + i];
                bits[from * width + i] = 0;
            }
        }

        /** Where a like row is; it is put behind all, if there is none; NONE: there is no room. */
        int indexOf(StateSets other, int row) {
            int hash = other.hashOf(row);
            for (int i = 0; i < slots.length; i++) {
                int slot = (hash + i) & (slots.length - 1);
                int at = slots[slot];
                if (at == NONE) {
                    return append(other, row, slot);
                }
                if (isLike(at, other, row)) {
                    return at;
                }
            }
            return NONE;
        }

        private int append(StateSets other, int row, int slot) {
            if (count == room) {
                return NONE;
            }
            System.arraycopy(other.bits, row * width, bits, count * width, width);
            slots[slot] = count;
            count++;
            return count - 1;
        }

        private int hashOf(int row) {
            long hash = 0;
            for (int i = 0; i < width; i++) {
                hash = (hash ^ bits[row * width + i]) * 0x9E3779B97F4A7C15L;
                hash ^= hash >>> 32;
            }
            return (int) hash;
        }

        private boolean isLike(int at, StateSets other, int row) {
            for (int i = 0; i < width; i++) {
                if (bits[at * width + i] != other.bits[row * width + i]) {
                    return false;
                }
            }
            return true;
        }
    }

    /** STATES and EDGES of a Tree by a DEPTH. */
    private static final class Machine {
        private static final int TO_BASE = 256;
        private static final int FROM_BASE = LETTERS * TO_BASE;

        boolean known;
        int states;
        final int[] stateOf = new int[MOST_PREFIXES];
        final int[] leastPrefix = new int[MOST_PREFIXES];
        final int[] prefixes = new int[MOST_PREFIXES];
        final int[] enders = new int[MOST_PREFIXES];
        final int[] rows = new int[MOST_PREFIXES];
        private final long[] finals = new long[StateSets.LONGS];

        int edges;
        /** EDGES in order as numbers of STATE, LETTER, STATE: their order is that of these numbers. */
        private final int[] keys = new int[MOST_EDGES];
        final int[] support = new int[MOST_EDGES];
        final int[] low = new int[MOST_EDGES];
        final int[] high = new int[MOST_EDGES];
        final int[] firstEdge = new int[MOST_PREFIXES + 1];
        /** The EDGE by which a PREFIX (but 0) is come to. */
        final int[] edgeTo = new int[MOST_PREFIXES];

        int from(int edge) {
            return keys[edge] / FROM_BASE;
        }

        int letter(int edge) {
            return keys[edge] / TO_BASE % LETTERS;
        }

        int to(int edge) {
            return keys[edge] % TO_BASE;
        }

        void fold(Traces traces, Tree tree, Follows follows, int k) {
            known = true;
            follows.gather(traces, tree, k);
            foldStates(tree, follows);
            gatherKeys(tree);
            gatherRanges(tree);
            gatherFirsts();
        }

        private void foldStates(Tree tree, Follows follows) {
            states = 0;
            Arrays.fill(finals, 0L);
            for (int prefix = 0; prefix < tree.prefixes; prefix++) {
                int like = follows.firstLike(prefix);
                if (like == prefix) {
                    stateOf[prefix] = states;
                    leastPrefix[states] = prefix;
                    prefixes[states] = 0;
                    enders[states] = 0;
                    rows[states] = follows.counts[prefix];
                    states++;
                }
                int state = stateOf[like];
                stateOf[prefix] = state;
                prefixes[state]++;
                enders[state] += tree.enders[prefix];
                if (tree.enders[prefix] > 0) {
                    finals[state >> 6] |= 1L << (state & 63);
                }
            }
        }

        private int keyOf(Tree tree, int prefix) {
            int from = stateOf[tree.parent[prefix]];
            return from * FROM_BASE + tree.letter[prefix] * TO_BASE + stateOf[prefix];
        }

        /** The first EDGE of which the number is not below the key. */
        private int placeOf(int key) {
            int least = 0;
            int above = edges;
            while (least < above) {
                int middle = (least + above) / 2;
                if (keys[middle] < key) {
                    least = middle + 1;
                } else {
                    above = middle;
                }
            }
            return least;
        }

        private void gatherKeys(Tree tree) {
            edges = 0;
            for (int prefix = 1; prefix < tree.prefixes; prefix++) {
                int key = keyOf(tree, prefix);
                int at = placeOf(key);
                if (at == edges || keys[at] != key) {
                    System.arraycopy(keys, at, keys, at + 1, edges - at);
                    keys[at] = key;
                    support[edges] = 0;
                    low[edges] = GREATEST_VALUE;
                    high[edges] = 0;
                    edges++;
                }
            }
        }

        private void gatherRanges(Tree tree) {
            for (int prefix = 1; prefix < tree.prefixes; prefix++) {
                int edge = placeOf(keyOf(tree, prefix));
                edgeTo[prefix] = edge;
                support[edge] += tree.goers[prefix];
                low[edge] = Math.min(low[edge], tree.low[prefix]);
                high[edge] = Math.max(high[edge], tree.high[prefix]);
            }
        }

        private void gatherFirsts() {
            int edge = 0;
            for (int state = 0; state < states; state++) {
                firstEdge[state] = edge;
                while (edge < edges && from(edge) == state) {
                    edge++;
                }
            }
            firstEdge[states] = edges;
        }

        /** How often TRACES left a STATE. */
        int leavers(int state) {
            int leavers = 0;
            for (int edge = firstEdge[state]; edge < firstEdge[state + 1]; edge++) {
                leavers += support[edge];
            }
            return leavers;
        }

        int finalStates() {
            int found = 0;
            for (int state = 0; state < states; state++) {
                if (enders[state] > 0) {
                    found++;
                }
            }
            return found;
        }

        /** Pairs of EDGES from one STATE by one LETTER, of which the RANGES, slack wider, meet. */
        int forks(int slack) {
            int found = 0;
            for (int edge = 0; edge < edges; edge++) {
                for (int next = edge + 1; next < edges; next++) {
                    if (keys[next] / TO_BASE != keys[edge] / TO_BASE) {
                        break;
                    }
                    int least = Math.max(low[edge], low[next]) - slack;
                    int greatest = Math.min(high[edge], high[next]) + slack;
                    if (least <= greatest) {
                        found++;
                    }
                }
            }
            return found;
        }

        /** The CALL at which a TRACE FAILS, NONE if it is TAKEN; row 0 of sets is where it ended. */
        int failsAt(Traces traces, int trace, int slack, StateSets sets) {
            sets.clear();
            if (states == 0) {
                return 0;
            }
            sets.put(0, 0, 0);
            int length = traces.lengths[trace];
            for (int i = 0; i < length; i++) {
                goOn(sets, traces.letterAt(trace, i), traces.valueAt(trace, i), slack);
                if (sets.isEmpty(0)) {
                    return i;
                }
            }
            return takes(sets, 0, 0) ? NONE : length;
        }

        private void goOn(StateSets sets, int letter, int value, int slack) {
            for (int i = 0; i < StateSets.LONGS; i++) {
                for (long some = sets.longAt(0, 0, i); some != 0; some &= some - 1) {
                    int state = 64 * i + StateSets.lowest(some);
                    for (int edge = firstEdge[state]; edge < firstEdge[state + 1]; edge++) {
                        if (letter(edge) == letter && value >= low[edge] - slack && value <= high[edge] + slack) {
                            sets.put(1, 0, to(edge));
                        }
                    }
                }
            }
            sets.moveRow(1, 0);
        }

        /** Into row 0 .. 9 of to come the STATES behind a set by a .. j. */
        void fan(StateSets sets, int row, int part, StateSets to) {
            for (int i = 0; i < StateSets.LONGS; i++) {
                for (long some = sets.longAt(row, part, i); some != 0; some &= some - 1) {
                    int state = 64 * i + StateSets.lowest(some);
                    for (int edge = firstEdge[state]; edge < firstEdge[state + 1]; edge++) {
                        to.put(letter(edge), part, to(edge));
                    }
                }
            }
        }

        /** Whether a set has a FINAL STATE. */
        boolean takes(StateSets sets, int row, int part) {
            for (int i = 0; i < StateSets.LONGS; i++) {
                if ((sets.longAt(row, part, i) & finals[i]) != 0) {
                    return true;
                }
            }
            return false;
        }
    }

    /** WORDS of one Machine: how many, in how many ways, those walked. */
    private static final class Words {
        private static final int DRAW_TIMES = 1103;
        private static final int DRAW_AND = 12345;
        private static final int DRAW_MODULO = 1000003;

        final int[] path = new int[MOST_CALLS];
        private final StateSets fan = new StateSets(LETTERS, 1);
        private StateSets here = new StateSets(MOST_SETS, 1);
        private StateSets next = new StateSets(MOST_SETS, 1);
        private int[] wordsHere = new int[MOST_SETS];
        private int[] wordsNext = new int[MOST_SETS];
        private int[] waysHere = new int[MOST_PREFIXES];
        private int[] waysNext = new int[MOST_PREFIXES];

        int number(Machine machine, int n) {
            if (machine.states == 0) {
                return 0;
            }
            fan.clear();
            fan.put(0, 0, 0);
            here.forget();
            here.indexOf(fan, 0);
            wordsHere[0] = 1;
            if (n == 0) {
                return machine.takes(here, 0, 0) ? 1 : 0;
            }
            for (int letters = 1; letters < n; letters++) {
                if (!goOn(machine)) {
                    return TOO_MANY;
                }
            }
            return takenNext(machine);
        }

        /** The sets behind one LETTER more, each with how many words come to it; false: too many. */
        private boolean goOn(Machine machine) {
            next.forget();
            for (int row = 0; row < here.count; row++) {
                fan.clear();
                machine.fan(here, row, 0, fan);
                for (int letter = 0; letter < LETTERS; letter++) {
                    if (!fan.isEmpty(letter) && !comeTo(letter, wordsHere[row])) {
                        return false;
                    }
                }
            }
            StateSets sets = here;
            here = next;
            next = sets;
            int[] words = wordsHere;
            wordsHere = wordsNext;
            wordsNext = words;
            return true;
        }

        private boolean comeTo(int letter, int words) {
            int before = next.count;
            int at = next.indexOf(fan, letter);
            if (at == NONE) {
                return false;
            }
            wordsNext[at] = at == before ? words : wordsNext[at] + words;
            return true;
        }

        private int takenNext(Machine machine) {
            int taken = 0;
            for (int row = 0; row < here.count; row++) {
                fan.clear();
                machine.fan(here, row, 0, fan);
                for (int letter = 0; letter < LETTERS; letter++) {
                    if (machine.takes(fan, letter, 0)) {
                        taken += wordsHere[row];
                    }
                }
            }
            return taken;
        }

        /** No count goes above the limit, so that none of the sums can overflow. */
        int waysOf(Traces traces, int trace, Machine machine) {
            Arrays.fill(waysHere, 0);
            waysHere[0] = 1;
            for (int i = 0; i < traces.lengths[trace]; i++) {
                stepWays(machine, traces.letterAt(trace, i));
            }
            int ways = 0;
            for (int state = 0; state < machine.states; state++) {
                if (machine.enders[state] > 0) {
                    ways = Math.min(ways + waysHere[state], MOST_WAYS);
                }
            }
            return ways;
        }

        private void stepWays(Machine machine, int letter) {
            Arrays.fill(waysNext, 0);
            for (int edge = 0; edge < machine.edges; edge++) {
                if (machine.letter(edge) == letter) {
                    int to = machine.to(edge);
                    waysNext[to] = Math.min(waysNext[to] + waysHere[machine.from(edge)], MOST_WAYS);
                }
            }
            int[] ways = waysHere;
            waysHere = waysNext;
            waysNext = ways;
        }

        /** A WALK into path: how many LETTERS, or LOST. */
        int draw(Machine machine, int seed) {
            int s = seed;
            int state = 0;
            for (int letters = 0; letters <= MOST_CALLS; letters++) {
                int all = machine.enders[state] + machine.leavers(state);
                if (all <= 0) {
                    return letters;
                }
                s = (DRAW_TIMES * s + DRAW_AND) % DRAW_MODULO;
                int rest = s % all - machine.enders[state];
                if (rest < 0) {
                    return letters;
                }
                if (letters == MOST_CALLS) {
                    return LOST;
                }
                int edge = machine.firstEdge[state];
                while (edge < machine.firstEdge[state + 1] - 1 && rest >= machine.support[edge]) {
                    rest -= machine.support[edge];
                    edge++;
                }
                path[letters] = machine.letter(edge);
                state = machine.to(edge);
            }
            return LOST;
        }
    }

    /** The least word by which the machines of two DEPTHS part. */
    private static final class Parting {
        boolean known;
        /** How many LETTERS the word has; NONE: there is none; TOO_MANY. */
        int letters;
        final int[] word = new int[MOST_LETTERS];
        private int depth;
        private int otherDepth;
        private final StateSets twos = new StateSets(MOST_TWOS, 2);
        private final StateSets fan = new StateSets(LETTERS, 2);
        private final int[] cameFrom = new int[MOST_TWOS];
        private final int[] cameBy = new int[MOST_TWOS];
        private final int[] lengths = new int[MOST_TWOS];

        boolean isOf(int k, int other) {
            return known && depth == k && otherDepth == other;
        }

        void setOf(int k, int other) {
            known = true;
            depth = k;
            otherDepth = other;
        }

        void find(Machine one, Machine other) {
            letters = NONE;
            begin(one, other);
            for (int two = 0; two < MOST_TWOS && two < twos.count; two++) {
                if (one.takes(twos, two, 0) != other.takes(twos, two, 1)) {
                    spell(two);
                    return;
                }
                if (lengths[two] < MOST_LETTERS && !goOn(one, other, two)) {
                    letters = TOO_MANY;
                    return;
                }
            }
        }

        private void begin(Machine one, Machine other) {
            fan.clear();
            if (one.states > 0) {
                fan.put(0, 0, 0);
            }
            if (other.states > 0) {
                fan.put(0, 1, 0);
            }
            twos.forget();
            twos.indexOf(fan, 0);
            lengths[0] = 0;
        }

        /** Those that come from a two by a .. j; false: one comes for which there is no room. */
        private boolean goOn(Machine one, Machine other, int two) {
            fan.clear();
            one.fan(twos, two, 0, fan);
            other.fan(twos, two, 1, fan);
            for (int letter = 0; letter < LETTERS; letter++) {
                int before = twos.count;
                int at = twos.indexOf(fan, letter);
                if (at == NONE) {
                    return false;
                }
                if (at == before) {
                    cameFrom[at] = two;
                    cameBy[at] = letter;
                    lengths[at] = lengths[two] + 1;
                }
            }
            return true;
        }

        private void spell(int two) {
            letters = lengths[two];
            int at = two;
            for (int i = letters - 1; i >= 0; i--) {
                word[i] = cameBy[at];
                at = cameFrom[at];
            }
        }
    }

    /** The fewest TRACES that together go all EDGES, as bits. */
    private static final class Cover {
        boolean known;
        int best;
        private int bestSize;
        /** For each EDGE the TRACES that go it, as bits. */
        private final int[] goers = new int[MOST_EDGES];
        private int count;

        void find(Traces traces, Tree tree, Machine machine) {
            known = true;
            gather(traces, tree, machine);
            leaveOutImplied();
            best = (1 << traces.count) - 1;
            bestSize = traces.count;
            search(0, 0, 0);
        }

        private void gather(Traces traces, Tree tree, Machine machine) {
            count = machine.edges;
            Arrays.fill(goers, 0);
            for (int trace = 0; trace < traces.count; trace++) {
                for (int i = 1; i <= traces.lengths[trace]; i++) {
                    goers[machine.edgeTo[tree.prefixAt(trace, i)]] |= 1 << trace;
                }
            }
        }

        /** An EDGE that all goers of another go is gone with that one: the search is far shorter without it. */
        private void leaveOutImplied() {
            int left = 0;
            for (int edge = 0; edge < count; edge++) {
                if (!isImplied(edge, left)) {
                    goers[left] = goers[edge];
                    left++;
                }
            }
            count = left;
        }

        /** Of EDGES with the same goers the first stays: those below left are what stayed of those ahead of it. */
        private boolean isImplied(int edge, int left) {
            for (int other = 0; other < left; other++) {
                if ((goers[other] & ~goers[edge]) == 0) {
                    return true;
                }
            }
            for (int other = edge + 1; other < count; other++) {
                if ((goers[other] & ~goers[edge]) == 0 && goers[other] != goers[edge]) {
                    return true;
                }
            }
            return false;
        }

        /** TRACES banned were tried already with all that is chosen: no cover with them is new. */
        private void search(int chosen, int banned, int size) {
            if (size > bestSize || (size == bestSize && chosen >= best)) {
                return;
            }
            int edge = hardest(chosen, banned);
            if (edge == NONE) {
                best = chosen;
                bestSize = size;
                return;
            }
            if (size >= bestSize || size >= MOST_TRACES) {
                return;
            }
            int triedToo = banned;
            for (int some = goers[edge] & ~banned; some != 0; some &= some - 1) {
                int trace = some & -some;
                search(chosen | trace, triedToo, size + 1);
                triedToo |= trace;
            }
        }

        /** Of EDGES not gone yet that which the fewest TRACES left go; NONE: all are gone. */
        private int hardest(int chosen, int banned) {
            int hardest = NONE;
            int fewest = MOST_TRACES + 1;
            for (int edge = 0; edge < count; edge++) {
                if ((goers[edge] & chosen) == 0) {
                    int left = Integer.bitCount(goers[edge] & ~banned);
                    if (left < fewest) {
                        fewest = left;
                        hardest = edge;
                    }
                }
            }
            return hardest;
        }
    }

    /** A RULE of two LETTERS, asked of TRACES. */
    private static final class Pair {
        int asked;
        int so;
        private int firstX;
        private int lastX;
        private int countX;
        private int firstY;
        private int lastY;
        private int countY;
        private boolean rightBehind;
        private boolean inTurn;

        boolean stands(Traces traces, int kind, int x, int y, int least) {
            tally(traces, kind, x, y);
            return asked >= least && so == asked;
        }

        void tally(Traces traces, int kind, int x, int y) {
            asked = 0;
            so = 0;
            for (int trace = 0; trace < traces.count; trace++) {
                look(traces, trace, x, y);
                if (isAsked(kind)) {
                    asked++;
                    if (isSo(kind)) {
                        so++;
                    }
                }
            }
        }

        private void look(Traces traces, int trace, int x, int y) {
            forgetLooks();
            int length = traces.lengths[trace];
            for (int i = 0; i < length; i++) {
                int letter = traces.letterAt(trace, i);
                if (letter == x) {
                    meetX(i);
                    if (i + 1 >= length || traces.letterAt(trace, i + 1) != y) {
                        rightBehind = false;
                    }
                } else if (letter == y) {
                    meetY(i);
                }
            }
            if (countX != countY) {
                inTurn = false;
            }
        }

        private void forgetLooks() {
            firstX = NONE;
            lastX = NONE;
            countX = 0;
            firstY = NONE;
            lastY = NONE;
            countY = 0;
            rightBehind = true;
            inTurn = true;
        }

        private void meetX(int i) {
            if (countX != countY) {
                inTurn = false;
            }
            if (countX == 0) {
                firstX = i;
            }
            lastX = i;
            countX++;
        }

        private void meetY(int i) {
            if (countX != countY + 1) {
                inTurn = false;
            }
            if (countY == 0) {
                firstY = i;
            }
            lastY = i;
            countY++;
        }

        private boolean isAsked(int kind) {
            switch (kind) {
                case 0:
                case 2:
                case 3:
                    return countX > 0;
                case 1:
                    return countY > 0;
                default:
                    return countX > 0 || countY > 0;
            }
        }

        private boolean isSo(int kind) {
            switch (kind) {
                case 0:
                    return lastY > lastX;
                case 1:
                    return countX > 0 && firstX < firstY;
                case 2:
                    return lastY < firstX;
                case 3:
                    return rightBehind;
                case 4:
                    return countX == countY;
                default:
                    return inTurn;
            }
        }
    }

    /** WEAKNESS of TRACES, and their places by it. */
    private static final class Odds {
        final int[] weakness = new int[MOST_TRACES];
        /** How many CALLS of a TRACE go an EDGE of just that SUPPORT. */
        final int[] calls = new int[MOST_TRACES];
        private int count;

        void weigh(Traces traces, Tree tree, Machine machine) {
            count = traces.count;
            for (int trace = 0; trace < count; trace++) {
                weakness[trace] = WEAKNESS_WITHOUT_CALLS;
                calls[trace] = 0;
                for (int i = 1; i <= traces.lengths[trace]; i++) {
                    meet(trace, machine.support[machine.edgeTo[tree.prefixAt(trace, i)]]);
                }
            }
        }

        private void meet(int trace, int support) {
            if (support < weakness[trace]) {
                weakness[trace] = support;
                calls[trace] = 0;
            }
            if (support == weakness[trace]) {
                calls[trace]++;
            }
        }

        int placeOf(int trace) {
            int place = 0;
            for (int other = 0; other < count; other++) {
                if (isOdder(other, trace)) {
                    place++;
                }
            }
            return place;
        }

        private boolean isOdder(int other, int trace) {
            if (weakness[other] != weakness[trace]) {
                return weakness[other] < weakness[trace];
            }
            if (calls[other] != calls[trace]) {
                return calls[other] > calls[trace];
            }
            return other < trace;
        }
    }
}
