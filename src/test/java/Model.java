import java.util.ArrayList;
import java.util.Arrays;
import java.util.HashMap;
import java.util.List;
import java.util.Map;
import java.util.TreeMap;
import java.util.TreeSet;

/**
 * The document once more, as slowly and as plainly as can be: every telling of boxes is written
 * out, drawn and measured, with no thought of what could be left out. It shares no code and no
 * shortcut with the program.
 */
final class Model {
    static final int NONE = -1, BAD = -2, TWICE = -3, WRONG = -4, FULL = -5, NOT = -6;

    /** A NET: the boxes of SILENT HOPS (NAMES, or 10 and on), and its LINES. */
    record Net(int[] silentBoxes, boolean[][] lines, int boxes, int lineCount) {
    }

    /** LEAST NETS by what they come from: runs ask the same again and again. */
    private static final Map<String, List<Net>> KNOWN = new HashMap<>();

    private final List<Integer> hand = new ArrayList<>();
    private final List<List<Integer>> traces = new ArrayList<>();
    private final List<int[]> ones = new ArrayList<>();
    private final List<int[]> aparts = new ArrayList<>();

    // ---- telling

    int hop(int name) {
        if (name < -1 || name > 5) {
            return BAD;
        }
        if (name != -1 && hand.contains(name)) {
            return TWICE;
        }
        int silents = silentsOf(traces) + silentsOf(List.of(hand));
        if (hand.size() == 6 || name == -1 && silents + 1 > 4) {
            return FULL;
        }
        hand.add(name);
        return hand.size();
    }

    int drop() {
        int size = hand.size();
        hand.clear();
        return size;
    }

    int trace() {
        if (traces.size() == 6) {
            return FULL;
        }
        if (hand.size() < 2 || hand.get(0) == -1 || hand.get(hand.size() - 1) == -1) {
            return NOT;
        }
        traces.add(new ArrayList<>(hand));
        hand.clear();
        return traces.size() - 1;
    }

    int forget(int trace) {
        if (trace < 0 || trace >= traces.size()) {
            return BAD;
        }
        traces.remove(trace);
        return traces.size();
    }

    int tell(int a, int b, boolean one) {
        if (a < 0 || a > 5 || b < 0 || b > 5 || a == b) {
            return BAD;
        }
        int[] pair = {a, b};
        if (one) {
            if (boxOfName(ones, a) == boxOfName(ones, b)) {
                return TWICE;
            }
            List<int[]> then = new ArrayList<>(ones);
            then.add(pair);
            for (int[] apart : aparts) {
                if (boxOfName(then, apart[0]) == boxOfName(then, apart[1])) {
                    return WRONG;
                }
            }
            ones.add(pair);
            return 1;
        }
        for (int[] apart : aparts) {
            if (apart[0] == a && apart[1] == b || apart[0] == b && apart[1] == a) {
                return TWICE;
            }
        }
        if (boxOfName(ones, a) == boxOfName(ones, b)) {
            return WRONG;
        }
        aparts.add(pair);
        return 1;
    }

    int untell() {
        int times = ones.size() + aparts.size();
        ones.clear();
        aparts.clear();
        return times;
    }

    int at(int trace, int i) {
        if (trace < 0 || trace >= traces.size() || i < 0 || i >= traces.get(trace).size()) {
            return BAD;
        }
        return traces.get(trace).get(i);
    }

    // ---- least nets

    int nets() {
        return leastNets(traces).size();
    }

    int shape(int what) {
        if (what < 0 || what > 1) {
            return BAD;
        }
        List<Net> least = leastNets(traces);
        if (least.isEmpty()) {
            return NOT;
        }
        return what == 0 ? least.get(0).boxes : least.get(0).lineCount;
    }

    int boxOf(int k, int silent) {
        List<Net> least = leastNets(traces);
        if (least.isEmpty()) {
            return NOT;
        }
        if (k < 0 || k >= least.size() || silent < 0 || silent >= silentsOf(traces)) {
            return BAD;
        }
        return least.get(k).silentBoxes[silent];
    }

    int far(int k, int a, int b) {
        List<Net> least = leastNets(traces);
        if (least.isEmpty()) {
            return NOT;
        }
        if (k < 0 || k >= least.size() || !names(traces).contains(a) || !names(traces).contains(b)) {
            return BAD;
        }
        return farIn(least.get(k), a, b);
    }

    int sure(int a, int b) {
        List<Net> least = leastNets(traces);
        if (least.isEmpty()) {
            return NOT;
        }
        if (!names(traces).contains(a) || !names(traces).contains(b)) {
            return BAD;
        }
        int with = 0;
        for (Net net : least) {
            with += net.lines[boxOfName(ones, a)][boxOfName(ones, b)] ? 1 : 0;
        }
        return with == 0 ? 0 : with < least.size() ? 1 : 2;
    }

    int falses() {
        if (!leastNets(traces).isEmpty()) {
            return 0;
        }
        int best = -1;
        for (int gone = 0; gone < 1 << traces.size(); gone++) {
            List<List<Integer>> others = new ArrayList<>();
            for (int t = 0; t < traces.size(); t++) {
                if ((gone >> t & 1) == 0) {
                    others.add(traces.get(t));
                }
            }
            boolean fewer = best == -1 || Integer.bitCount(gone) < Integer.bitCount(best);
            if (fewer && !leastNets(others).isEmpty()) {
                best = gone;
            }
        }
        return best;
    }

    int next() {
        int[] pair = nextPair();
        return pair == null ? NOT : 10 * pair[0] + pair[1];
    }

    int worst() {
        int[] pair = nextPair();
        return pair == null ? NOT : greatestHeap(pair[0], pair[1]);
    }

    int count(int what) {
        TreeSet<Integer> boxes = new TreeSet<>();
        for (int name : names(traces)) {
            boxes.add(boxOfName(ones, name));
        }
        int[] counts = {traces.size(), silentsOf(traces), names(traces).size(), hand.size(), boxes.size()};
        return what < 0 || what > 4 ? BAD : counts[what];
    }

    // ---- what stands behind

    private int[] nextPair() {
        if (leastNets(traces).isEmpty()) {
            return null;
        }
        int[] best = null;
        for (int a : names(traces)) {
            for (int b : names(traces).tailSet(a + 1)) {
                if (best == null || greatestHeap(a, b) < greatestHeap(best[0], best[1])) {
                    best = new int[] {a, b};
                }
            }
        }
        return best;
    }

    private int greatestHeap(int a, int b) {
        Map<Integer, Integer> heaps = new TreeMap<>();
        for (Net net : leastNets(traces)) {
            heaps.merge(farIn(net, a, b), 1, Integer::sum);
        }
        int greatest = 0;
        for (int heap : heaps.values()) {
            greatest = Math.max(greatest, heap);
        }
        return greatest;
    }

    private int farIn(Net net, int a, int b) {
        int way = ways(net.lines)[boxOfName(ones, a)][boxOfName(ones, b)];
        return way == FAR_OFF ? NONE : way;
    }

    private static int silentsOf(List<List<Integer>> rows) {
        int silents = 0;
        for (List<Integer> row : rows) {
            for (int hop : row) {
                silents += hop == -1 ? 1 : 0;
            }
        }
        return silents;
    }

    private static TreeSet<Integer> names(List<List<Integer>> rows) {
        TreeSet<Integer> names = new TreeSet<>();
        for (List<Integer> row : rows) {
            names.addAll(row);
        }
        names.remove(-1);
        return names;
    }

    /** The least NAME that is one box with this one, by going along pairs until nothing is added. */
    private static int boxOfName(List<int[]> pairs, int name) {
        TreeSet<Integer> box = new TreeSet<>();
        box.add(name);
        for (int round = 0; round < 6; round++) {
            for (int[] pair : pairs) {
                if (box.contains(pair[0]) || box.contains(pair[1])) {
                    box.add(pair[0]);
                    box.add(pair[1]);
                }
            }
        }
        return box.first();
    }

    private List<Net> leastNets(List<List<Integer>> rows) {
        StringBuilder key = new StringBuilder();
        for (int name = 0; name < 6; name++) {
            key.append(boxOfName(ones, name));
        }
        return KNOWN.computeIfAbsent(key + " " + rows, unseen -> allLeast(rows));
    }

    private List<Net> allLeast(List<List<Integer>> rows) {
        TreeSet<Integer> nameBoxes = new TreeSet<>();
        for (int name : names(rows)) {
            nameBoxes.add(boxOfName(ones, name));
        }
        List<Integer> choices = new ArrayList<>(nameBoxes);
        choices.addAll(List.of(10, 11, 12, 13));
        int silents = silentsOf(rows);
        int many = (int) Math.pow(choices.size(), silents);
        List<Net> fitting = new ArrayList<>();
        for (int number = 0; number < many; number++) {
            int[] telling = new int[silents];
            int rest = number;
            for (int s = silents - 1; s >= 0; s--) {
                telling[s] = choices.get(rest % choices.size());
                rest /= choices.size();
            }
            Net net = isCalledInOrder(telling) ? netThatFits(rows, telling, nameBoxes) : null;
            if (net != null) {
                fitting.add(net);
            }
        }
        return fewest(fitting);
    }

    /** NEW boxes are called 0, 1 and so on as they come up. */
    private static boolean isCalledInOrder(int[] telling) {
        int due = 10;
        for (int box : telling) {
            if (box > due) {
                return false;
            }
            due += box == due ? 1 : 0;
        }
        return true;
    }

    private static List<Net> fewest(List<Net> fitting) {
        int boxes = 1000;
        int lines = 1000;
        for (Net net : fitting) {
            if (net.boxes < boxes || net.boxes == boxes && net.lineCount < lines) {
                boxes = net.boxes;
                lines = net.lineCount;
            }
        }
        List<Net> least = new ArrayList<>();
        for (Net net : fitting) {
            if (net.boxes == boxes && net.lineCount == lines) {
                least.add(net);
            }
        }
        return least;
    }

    private Net netThatFits(List<List<Integer>> rows, int[] telling, TreeSet<Integer> nameBoxes) {
        boolean[][] lines = new boolean[14][14];
        TreeSet<Integer> boxes = new TreeSet<>(nameBoxes);
        List<List<Integer>> drawn = new ArrayList<>();
        int silent = 0;
        for (List<Integer> row : rows) {
            List<Integer> ways = new ArrayList<>();
            for (int hop : row) {
                ways.add(hop == -1 ? telling[silent++] : boxOfName(ones, hop));
            }
            if (new TreeSet<>(ways).size() < ways.size()) {
                return null;
            }
            boxes.addAll(ways);
            drawn.add(ways);
            for (int i = 1; i < ways.size(); i++) {
                lines[ways.get(i - 1)][ways.get(i)] = true;
                lines[ways.get(i)][ways.get(i - 1)] = true;
            }
        }
        int[][] far = ways(lines);
        for (List<Integer> row : drawn) {
            if (far[row.get(0)][row.get(row.size() - 1)] + 1 < row.size()) {
                return null;
            }
        }
        int lineCount = 0;
        for (int a = 0; a < 14; a++) {
            for (int b = a + 1; b < 14; b++) {
                lineCount += lines[a][b] ? 1 : 0;
            }
        }
        return new Net(telling, lines, boxes.size(), lineCount);
    }

    private static final int FAR_OFF = 10000;

    /** All shortest ways at once, box by box let through. */
    private static int[][] ways(boolean[][] lines) {
        int size = lines.length;
        int[][] far = new int[size][size];
        for (int a = 0; a < size; a++) {
            Arrays.fill(far[a], FAR_OFF);
            for (int b = 0; b < size; b++) {
                far[a][b] = a == b ? 0 : lines[a][b] ? 1 : FAR_OFF;
            }
        }
        for (int by = 0; by < size; by++) {
            for (int a = 0; a < size; a++) {
                for (int b = 0; b < size; b++) {
                    far[a][b] = Math.min(far[a][b], far[a][by] + far[by][b]);
                }
            }
        }
        return far;
    }
}
