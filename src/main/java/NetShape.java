import java.util.Arrays;

/** The least nets that rows of hops fit as shortest ways; README.md says how it is used. */
public final class NetShape {
    public static final int NONE = -1, BAD = -2, TWICE = -3, WRONG = -4, FULL = -5, NOT = -6;

    private static final int SILENT = -1;
    private static final int NAMES = 6;
    private static final int TRACES = 6;
    private static final int HOPS = 6;
    private static final int SILENTS = 4;
    /** A box is held as the least of its NAMES, or as NAMES and the number of a NEW one. */
    private static final int BOXES = NAMES + SILENTS;
    private static final int ALL_BOXES = (1 << BOXES) - 1;
    /** What NEW box 0 is called in answers. */
    private static final int NEW = 10;
    /** The row at hand stands behind the TRACES. */
    private static final int HAND = TRACES;
    /**
     * More than there can be LEAST NETS: a SILENT HOP stands between two NAMES of unlike boxes, so
     * four boxes of NAMES are left for it; with one NEW box that makes 5^4 - 4^4 = 369 NETS, with
     * none or with more of them fewer.
     */
    private static final int MOST_NETS = 512;
    private static final int BITS_OF_BOX = 4;
    private static final int MASK_OF_BOX = 15;
    private static final int NEVER = 0, OPEN = 1, SURE = 2;

    private final Rows rows;
    private final Told told;
    private final LeastNets least;
    private final Survey survey;

    public NetShape() {
        rows = new Rows();
        told = new Told();
        Net net = new Net(rows, told);
        least = new LeastNets(rows, told, net);
        survey = new Survey(rows, told, net, least);
    }

    // ---- telling

    public int hop(int name) {
        if (name != SILENT && !isName(name)) {
            return BAD;
        }
        if (name != SILENT && rows.has(HAND, name)) {
            return TWICE;
        }
        if (rows.length(HAND) >= HOPS) {
            return FULL;
        }
        if (name == SILENT && rows.silents() + rows.silentsIn(HAND) >= SILENTS) {
            return FULL;
        }
        rows.append(HAND, name);
        return rows.length(HAND);
    }

    public int drop() {
        int before = rows.length(HAND);
        rows.empty(HAND);
        return before;
    }

    public int trace() {
        if (rows.traces() >= TRACES) {
            return FULL;
        }
        int length = rows.length(HAND);
        if (length < 2 || rows.hopAt(HAND, 0) == SILENT || rows.hopAt(HAND, length - 1) == SILENT) {
            return NOT;
        }
        rows.keepHand();
        forgetAnswers();
        return rows.traces() - 1;
    }

    public int forget(int trace) {
        if (!isTrace(trace)) {
            return BAD;
        }
        rows.remove(trace);
        forgetAnswers();
        return rows.traces();
    }

    public int tell(int a, int b, boolean one) {
        if (!isName(a) || !isName(b) || a == b) {
            return BAD;
        }
        boolean already = one ? told.areOneBox(a, b) : told.areToldApart(a, b);
        if (already) {
            return TWICE;
        }
        boolean otherwise = one ? told.haveBoxesApart(a, b) : told.areOneBox(a, b);
        if (otherwise) {
            return WRONG;
        }
        told.add(a, b, one);
        forgetAnswers();
        return 1;
    }

    public int untell() {
        int before = told.times();
        told.clear();
        forgetAnswers();
        return before;
    }

    public int at(int trace, int i) {
        if (!isTrace(trace) || i < 0 || i >= rows.length(trace)) {
            return BAD;
        }
        return rows.hopAt(trace, i);
    }

    // ---- least nets

    public int nets() {
        return least.many();
    }

    public int shape(int what) {
        if (what != 0 && what != 1) {
            return BAD;
        }
        if (least.many() == 0) {
            return NOT;
        }
        return what == 0 ? boxesOfNames() + least.newBoxes() : least.lines();
    }

    public int boxOf(int k, int silent) {
        if (least.many() == 0) {
            return NOT;
        }
        if (!isNet(k) || silent < 0 || silent >= rows.silents()) {
            return BAD;
        }
        int box = boxIn(least.code(k), silent);
        return box < NAMES ? box : NEW + box - NAMES;
    }

    public int far(int k, int a, int b) {
        if (least.many() == 0) {
            return NOT;
        }
        if (!isNet(k) || !isTraced(a) || !isTraced(b)) {
            return BAD;
        }
        return survey.wayIn(least.code(k), told.box(a), told.box(b));
    }

    public int sure(int a, int b) {
        if (least.many() == 0) {
            return NOT;
        }
        if (!isTraced(a) || !isTraced(b)) {
            return BAD;
        }
        survey.make();
        return survey.lineBetween(told.box(a), told.box(b));
    }

    public int falses() {
        if (least.many() > 0) {
            return 0;
        }
        int all = rows.all();
        for (int size = 1; size <= TRACES; size++) {
            for (int gone = 1; gone <= all; gone++) {
                if (Integer.bitCount(gone) == size && least.someFits(all & ~gone)) {
                    return gone;
                }
            }
        }
        return all;
    }

    public int next() {
        if (least.many() == 0) {
            return NOT;
        }
        survey.make();
        return survey.bestPair();
    }

    public int worst() {
        if (least.many() == 0) {
            return NOT;
        }
        survey.make();
        return survey.bestHeap();
    }

    public int count(int what) {
        switch (what) {
            case 0:
                return rows.traces();
            case 1:
                return rows.silents();
            case 2:
                return Integer.bitCount(rows.names());
            case 3:
                return rows.length(HAND);
            case 4:
                return boxesOfNames();
            default:
                return BAD;
        }
    }

    // ---- what the calls share

    private void forgetAnswers() {
        least.forgetFound();
        survey.forgetMade();
    }

    private boolean isTrace(int trace) {
        return trace >= 0 && trace < rows.traces();
    }

    private boolean isNet(int k) {
        return k >= 0 && k < least.many();
    }

    private boolean isTraced(int name) {
        return isName(name) && hasBit(rows.names(), name);
    }

    private int boxesOfNames() {
        return Integer.bitCount(told.boxes(rows.names()));
    }

    private static boolean isName(int name) {
        return name >= 0 && name < NAMES;
    }

    private static boolean isBox(int box) {
        return box >= 0 && box < BOXES;
    }

    private static boolean hasBit(int bits, int i) {
        return (bits >> i & 1) == 1;
    }

    private static int boxIn(int code, int silent) {
        return code >> silent * BITS_OF_BOX & MASK_OF_BOX;
    }

    /** The TRACES and the row at hand. */
    private static final class Rows {
        private final int[] hops = new int[(TRACES + 1) * HOPS];
        private final int[] lengths = new int[TRACES + 1];
        private int traces;

        int traces() {
            return traces;
        }

        /** All TRACES, as bits. */
        int all() {
            return (1 << traces) - 1;
        }

        int length(int row) {
            return row >= 0 && row < lengths.length ? lengths[row] : 0;
        }

        int hopAt(int row, int i) {
            int place = row * HOPS + i;
            return i >= 0 && i < HOPS && place >= 0 && place < hops.length ? hops[place] : SILENT;
        }

        boolean has(int row, int hop) {
            for (int i = 0; i < length(row); i++) {
                if (hopAt(row, i) == hop) {
                    return true;
                }
            }
            return false;
        }

        int silentsIn(int row) {
            int sum = 0;
            for (int i = 0; i < length(row); i++) {
                if (hopAt(row, i) == SILENT) {
                    sum++;
                }
            }
            return sum;
        }

        int silents() {
            int sum = 0;
            for (int t = 0; t < traces; t++) {
                sum += silentsIn(t);
            }
            return sum;
        }

        /** The NAMES that are in TRACES, as bits. */
        int names() {
            int bits = 0;
            for (int t = 0; t < traces; t++) {
                for (int i = 0; i < length(t); i++) {
                    int hop = hopAt(t, i);
                    bits |= hop == SILENT ? 0 : 1 << hop;
                }
            }
            return bits;
        }

        void append(int row, int hop) {
            int length = length(row);
            int place = row * HOPS + length;
            if (row >= 0 && row < lengths.length && length < HOPS && place < hops.length) {
                hops[place] = hop;
                lengths[row] = length + 1;
            }
        }

        void empty(int row) {
            if (row >= 0 && row < lengths.length) {
                lengths[row] = 0;
            }
        }

        void keepHand() {
            if (traces < TRACES) {
                copy(HAND, traces);
                empty(HAND);
                traces++;
            }
        }

        void remove(int trace) {
            if (trace >= 0 && trace < traces) {
                for (int t = trace; t + 1 < traces; t++) {
                    copy(t + 1, t);
                }
                traces--;
            }
        }

        private void copy(int from, int to) {
            int length = length(from);
            empty(to);
            for (int i = 0; i < length; i++) {
                append(to, hopAt(from, i));
            }
        }
    }

    /** What is told of NAMES. */
    private static final class Told {
        /** For each NAME the least of its box. */
        private final int[] leasts = {0, 1, 2, 3, 4, 5};
        /** For each NAME those told as APART from it, as bits. */
        private final int[] aparts = new int[NAMES];
        private int times;

        int times() {
            return times;
        }

        void clear() {
            for (int name = 0; name < leasts.length; name++) {
                leasts[name] = name;
            }
            Arrays.fill(aparts, 0);
            times = 0;
        }

        int box(int name) {
            return name >= 0 && name < leasts.length ? leasts[name] : NONE;
        }

        /** The boxes of these NAMES; both as bits. */
        int boxes(int names) {
            int bits = 0;
            for (int name = 0; name < NAMES; name++) {
                bits |= hasBit(names, name) ? 1 << box(name) : 0;
            }
            return bits;
        }

        boolean areOneBox(int a, int b) {
            return box(a) == box(b);
        }

        boolean areToldApart(int a, int b) {
            return a >= 0 && a < aparts.length && hasBit(aparts[a], b);
        }

        /** Whether a NAME of a's box is told as APART from one of b's. */
        boolean haveBoxesApart(int a, int b) {
            for (int c = 0; c < NAMES; c++) {
                for (int d = 0; d < NAMES; d++) {
                    if (areOneBox(a, c) && areOneBox(b, d) && areToldApart(c, d)) {
                        return true;
                    }
                }
            }
            return false;
        }

        void add(int a, int b, boolean one) {
            if (one) {
                makeOne(box(a), box(b));
            } else {
                setApart(a, b);
                setApart(b, a);
            }
            times++;
        }

        private void makeOne(int box, int other) {
            for (int name = 0; name < leasts.length; name++) {
                if (leasts[name] == box || leasts[name] == other) {
                    leasts[name] = Math.min(box, other);
                }
            }
        }

        private void setApart(int a, int b) {
            if (a >= 0 && a < aparts.length) {
                aparts[a] |= 1 << b;
            }
        }
    }

    /** One NET at work: boxes for SILENT HOPS, and the LINES that rows draw with them. */
    private static final class Net {
        private final Rows rows;
        private final Told told;
        private final int[] silentBoxes = new int[SILENTS];
        private final int[] joined = new int[BOXES];

        Net(Rows rows, Told told) {
            this.rows = rows;
            this.told = told;
        }

        /** Gives a SILENT HOP its box, and loosens those behind it. */
        void place(int silent, int box, int newBoxes) {
            if (silent >= 0 && silent < silentBoxes.length) {
                silentBoxes[silent] = box;
                loosen(silent + 1, newBoxes);
            }
        }

        /** From this SILENT HOP on each gets a NEW box of its own, behind those in use. */
        void loosen(int silent, int newBoxes) {
            for (int s = Math.max(silent, 0); s < silentBoxes.length; s++) {
                silentBoxes[s] = NAMES + newBoxes + s - silent;
            }
        }

        int code() {
            int code = 0;
            for (int s = 0; s < silentBoxes.length; s++) {
                code |= silentBoxes[s] << s * BITS_OF_BOX;
            }
            return code;
        }

        /** Takes up a NET that is known to FIT. */
        void takeUp(int code) {
            for (int s = 0; s < silentBoxes.length; s++) {
                silentBoxes[s] = boxIn(code, s);
            }
            fits(rows.all());
        }

        /** Whether the NET FITS these TRACES (bits); if so, their LINES stand drawn. */
        boolean fits(int traces) {
            Arrays.fill(joined, 0);
            int silent = 0;
            for (int t = 0; t < rows.traces(); t++) {
                if (hasBit(traces, t) && !draw(t, silent)) {
                    return false;
                }
                silent += rows.silentsIn(t);
            }
            for (int t = 0; t < rows.traces(); t++) {
                if (hasBit(traces, t) && !isShortest(t)) {
                    return false;
                }
            }
            return true;
        }

        private boolean isShortest(int trace) {
            int length = rows.length(trace);
            int first = told.box(rows.hopAt(trace, 0));
            int last = told.box(rows.hopAt(trace, length - 1));
            return way(first, last) >= length - 1;
        }

        /** Draws the LINES of a TRACE; false if it has a box twice. */
        private boolean draw(int trace, int firstSilent) {
            int silent = firstSilent;
            int before = NONE;
            int seen = 0;
            for (int i = 0; i < rows.length(trace); i++) {
                int hop = rows.hopAt(trace, i);
                int box = hop == SILENT ? silentBox(silent) : told.box(hop);
                silent += hop == SILENT ? 1 : 0;
                if (hasBit(seen, box)) {
                    return false;
                }
                seen |= 1 << box;
                join(before, box);
                before = box;
            }
            return true;
        }

        private int silentBox(int silent) {
            return silent >= 0 && silent < silentBoxes.length ? silentBoxes[silent] : NONE;
        }

        private void join(int box, int other) {
            if (isBox(box) && isBox(other)) {
                joined[box] |= 1 << other;
                joined[other] |= 1 << box;
            }
        }

        /** The boxes that a LINE joins with this one, as bits. */
        int joinedWith(int box) {
            return isBox(box) ? joined[box] : 0;
        }

        int lines() {
            int ends = 0;
            for (int box = 0; box < BOXES; box++) {
                ends += Integer.bitCount(joined[box]);
            }
            return ends / 2;
        }

        /** How many LINES the shortest way has; NONE without a way. */
        int way(int from, int to) {
            int reached = 1 << from;
            for (int steps = 0; steps < BOXES; steps++) {
                if (hasBit(reached, to)) {
                    return steps;
                }
                int wider = reached;
                for (int box = 0; box < BOXES; box++) {
                    wider |= hasBit(reached, box) ? joined[box] : 0;
                }
                if (wider == reached) {
                    return NONE;
                }
                reached = wider;
            }
            return NONE;
        }
    }

    /** The LEAST NETS in ORDER, sought when they are first asked for. */
    private static final class LeastNets {
        private final Rows rows;
        private final Told told;
        private final Net net;
        private final int[] codes = new int[MOST_NETS];
        private boolean found;
        private int many;
        private int newBoxes;
        private int lines;
        private int silents;
        private int nameBoxes;

        LeastNets(Rows rows, Told told, Net net) {
            this.rows = rows;
            this.told = told;
            this.net = net;
        }

        void forgetFound() {
            found = false;
        }

        int many() {
            if (found) {
                return many;
            }
            found = true;
            many = 0;
            newBoxes = SILENTS;
            lines = BOXES * BOXES;
            silents = rows.silents();
            nameBoxes = told.boxes(rows.names());
            if (someFits(rows.all())) {
                seek(this, 0, 0);
            }
            return many;
        }

        int newBoxes() {
            return newBoxes;
        }

        int lines() {
            return lines;
        }

        int code(int k) {
            return k >= 0 && k < codes.length ? codes[k] : 0;
        }

        /**
         * Whether some NET FITS these TRACES (bits). Taking boxes for one never makes a way longer,
         * so if any NET FITS, then the one FITS in which each SILENT HOP has a NEW box of its own.
         */
        boolean someFits(int traces) {
            net.loosen(0, 0);
            return net.fits(traces);
        }

        /**
         * Goes through the boxes of a SILENT HOP and of those behind it. Where nothing FITS while
         * those behind have NEW boxes of their own, nothing FITS with other boxes for them either.
         */
        private static void seek(LeastNets nets, int silent, int newInUse) {
            if (silent >= nets.silents || silent >= SILENTS) {
                nets.keep(newInUse);
                return;
            }
            for (int box = 0; box <= NAMES + newInUse && box < BOXES; box++) {
                int newThen = box == NAMES + newInUse ? newInUse + 1 : newInUse;
                if (nets.mayTake(box, newThen)) {
                    nets.net.place(silent, box, newThen);
                    if (nets.net.fits(nets.rows.all())) {
                        seek(nets, silent + 1, newThen);
                    }
                }
            }
        }

        private boolean mayTake(int box, int newThen) {
            return newThen <= newBoxes && (box >= NAMES || hasBit(nameBoxes, box));
        }

        /** Keeps the NET at work, which FITS, if none that is kept is less. */
        private void keep(int newInUse) {
            int linesNow = net.lines();
            if (newInUse > newBoxes || newInUse == newBoxes && linesNow > lines) {
                return;
            }
            if (newInUse < newBoxes || linesNow < lines) {
                many = 0;
                newBoxes = newInUse;
                lines = linesNow;
            }
            if (many < codes.length) {
                codes[many] = net.code();
                many++;
            }
        }
    }

    /** What the LEAST NETS tell together, made when it is first asked for. */
    private static final class Survey {
        /** FAR as a place in a row of heaps: NONE, then 0 and on. */
        private static final int FARS = BOXES + 1;

        private final Rows rows;
        private final Told told;
        private final Net net;
        private final LeastNets least;
        private final int[] everJoined = new int[BOXES];
        private final int[] alwaysJoined = new int[BOXES];
        private final int[] heaps = new int[NAMES * NAMES * FARS];
        private boolean made;
        private int bestPair;
        private int bestHeap;

        Survey(Rows rows, Told told, Net net, LeastNets least) {
            this.rows = rows;
            this.told = told;
            this.net = net;
            this.least = least;
        }

        void forgetMade() {
            made = false;
        }

        /** NEXT; NOT without two NAMES. */
        int bestPair() {
            return bestPair;
        }

        /** The greatest heap of NEXT; NOT likewise. */
        int bestHeap() {
            return bestHeap;
        }

        int wayIn(int code, int from, int to) {
            net.takeUp(code);
            return net.way(from, to);
        }

        /** SURE, OPEN or NEVER of two boxes. */
        int lineBetween(int box, int other) {
            if (!isBox(box) || !hasBit(everJoined[box], other)) {
                return NEVER;
            }
            return hasBit(alwaysJoined[box], other) ? SURE : OPEN;
        }

        void make() {
            if (made) {
                return;
            }
            made = true;
            Arrays.fill(everJoined, 0);
            Arrays.fill(alwaysJoined, ALL_BOXES);
            Arrays.fill(heaps, 0);
            int names = rows.names();
            int many = least.many();
            for (int k = 0; k < many; k++) {
                net.takeUp(least.code(k));
                addLines();
                addWays(names);
            }
            choosePair(names);
        }

        private void addLines() {
            for (int box = 0; box < BOXES; box++) {
                everJoined[box] |= net.joinedWith(box);
                alwaysJoined[box] &= net.joinedWith(box);
            }
        }

        private void addWays(int names) {
            for (int a = 0; a < NAMES; a++) {
                for (int b = a + 1; b < NAMES; b++) {
                    if (hasBit(names, a) && hasBit(names, b)) {
                        addToHeap(a, b, net.way(told.box(a), told.box(b)));
                    }
                }
            }
        }

        private void addToHeap(int a, int b, int way) {
            int place = (a * NAMES + b) * FARS + way + 1;
            if (place >= 0 && place < heaps.length) {
                heaps[place]++;
            }
        }

        private void choosePair(int names) {
            bestPair = NOT;
            bestHeap = NOT;
            for (int a = 0; a < NAMES; a++) {
                for (int b = a + 1; b < NAMES; b++) {
                    if (hasBit(names, a) && hasBit(names, b)) {
                        choose(a, b);
                    }
                }
            }
        }

        private void choose(int a, int b) {
            int heap = greatestHeap(a, b);
            if (bestPair == NOT || heap < bestHeap) {
                bestPair = 10 * a + b;
                bestHeap = heap;
            }
        }

        private int greatestHeap(int a, int b) {
            int greatest = 0;
            int start = (a * NAMES + b) * FARS;
            for (int place = start; place < start + FARS && place < heaps.length; place++) {
                greatest = Math.max(greatest, heaps[place]);
            }
            return greatest;
        }
    }
}
