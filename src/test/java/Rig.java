/**
 * What tests of single sentences share. A row of HOPS is written as a text: a digit is a NAME, a
 * point is SILENT.
 */
abstract class Rig {
    static final int NONE = -1, BAD = -2, TWICE = -3, WRONG = -4, FULL = -5, NOT = -6;
    static final int LEAST = Integer.MIN_VALUE, GREATEST = Integer.MAX_VALUE;

    /** A new object with these TRACES. */
    static NetShape of(String... rows) {
        NetShape x = new NetShape();
        for (String row : rows) {
            add(x, row);
        }
        return x;
    }

    /** A TRACE more, none of whose calls may be refused. */
    static void add(NetShape x, String row) {
        hand(x, row);
        int got = x.trace();
        if (got < 0) {
            throw new IllegalStateException("trace() of " + row + " answered " + got);
        }
    }

    /** HOPS more at hand, none of which may be refused. */
    static void hand(NetShape x, String row) {
        for (char sign : row.toCharArray()) {
            int got = x.hop(hopOf(sign));
            if (got < 1) {
                throw new IllegalStateException("hop " + sign + " of " + row + " answered " + got);
            }
        }
    }

    static int hopOf(char sign) {
        return sign == '.' ? -1 : sign - '0';
    }

    /** A TRACE as it was written. */
    static String rowOf(NetShape x, int trace) {
        StringBuilder row = new StringBuilder();
        for (int i = 0; i < 7 && x.at(trace, i) != BAD; i++) {
            row.append(x.at(trace, i) == -1 ? "." : "" + x.at(trace, i));
        }
        return row.toString();
    }

    /** The boxes of all SILENT HOPS in a LEAST NET. */
    static String boxes(NetShape x, int k) {
        StringBuilder boxes = new StringBuilder();
        for (int silent = 0; silent < x.count(1); silent++) {
            boxes.append(silent == 0 ? "" : " ").append(x.boxOf(k, silent));
        }
        return boxes.toString();
    }

    /** The boxes of SILENT HOPS in each LEAST NET, in their ORDER. */
    static String allBoxes(NetShape x) {
        StringBuilder all = new StringBuilder();
        for (int k = 0; k < x.nets(); k++) {
            all.append(k == 0 ? "" : ", ").append(boxes(x, k));
        }
        return all.toString();
    }
}
