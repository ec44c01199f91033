import java.util.ArrayList;
import java.util.Arrays;
import java.util.Collections;
import java.util.List;
import java.util.Random;

/**
 * Rows that are true of a hidden net, so that LEAST NETS are many: each row is a shortest way in
 * it, with boxes that have no NAME, and some that have one, silent. In every fourth run rows are
 * loose instead, with hardly a NAME but at their ends; some runs get a false row too.
 * All is asked between the rows, beside the model. The seeds are fixed.
 */
public final class HiddenNetTest {
    private static final int CALLS = 512;

    private final Check check;
    private final int run;
    private final Random dice;
    private final NetShape net = new NetShape();
    private final Model model = new Model();
    private final int boxes;
    private final boolean[][] lines;
    private final StringBuilder told = new StringBuilder();
    private int calls;

    private HiddenNetTest(Check check, int run) {
        this.check = check;
        this.run = run;
        dice = new Random(104729L * run + 5);
        boxes = 6 + run % 4;
        lines = new boolean[boxes][boxes];
    }

    public static void main(String[] args) {
        Check check = new Check("HiddenNetTest");
        int runs = args.length > 0 ? Integer.parseInt(args[0]) : 200;
        int first = args.length > 1 ? Integer.parseInt(args[1]) : 0;
        for (int run = first; run < first + runs; run++) {
            new HiddenNetTest(check, run).go();
        }
        check.close();
    }

    private void go() {
        int wrongBefore = check.wrong();
        drawHiddenNet();
        for (int row = 0; row < 6; row++) {
            tellWay(run % 4 == 3 ? looseRow() : shortestWay());
            if (dice.nextInt(4) == 0) {
                tellNames();
            }
            askAll();
        }
        if (run % 5 == 0) {
            tellWay(List.of(0, 1 + dice.nextInt(5)));
            askAll();
        }
        int gone = dice.nextInt(6);
        see("forget(" + gone + ")", net.forget(gone), model.forget(gone));
        askAll();
        see("untell()", net.untell(), model.untell());
        askAll();
        if (check.wrong() > wrongBefore) {
            System.out.println("run " + run + ": " + told);
        }
    }

    /** A tree and a few lines more; in every third run even and odd boxes are two parts. */
    private void drawHiddenNet() {
        boolean inParts = run % 3 == 0;
        for (int box = inParts ? 2 : 1; box < boxes; box++) {
            join(box, inParts ? box - 2 * (1 + dice.nextInt(box / 2)) : dice.nextInt(box));
        }
        for (int more = inParts ? 0 : dice.nextInt(3); more > 0; more--) {
            join(dice.nextInt(boxes), dice.nextInt(boxes));
        }
    }

    private void join(int box, int other) {
        if (box != other) {
            lines[box][other] = true;
            lines[other][box] = true;
        }
    }

    /** A shortest way of 2 to 6 hops between two boxes that have NAMES. */
    private List<Integer> shortestWay() {
        List<List<Integer>> ways = new ArrayList<>();
        for (int from = 0; from < 6; from++) {
            for (int to = 0; to < 6; to++) {
                List<Integer> way = wayBetween(from, to);
                if (way.size() >= 2 && way.size() <= 6) {
                    ways.add(way);
                }
            }
        }
        List<List<Integer>> longer = new ArrayList<>();
        for (List<Integer> way : ways) {
            if (way.size() > 2) {
                longer.add(way);
            }
        }
        List<List<Integer>> from = longer.isEmpty() || dice.nextInt(4) == 0 ? ways : longer;
        return from.isEmpty() ? List.of(0, 1) : from.get(dice.nextInt(from.size()));
    }

    /** Two NAMES with boxes without one between them: little is known then, and many NETS are left. */
    private List<Integer> looseRow() {
        int first = dice.nextInt(6);
        List<Integer> row = new ArrayList<>(List.of(first));
        for (int silents = dice.nextInt(3); silents > 0; silents--) {
            row.add(6);
        }
        row.add((first + 1 + dice.nextInt(5)) % 6);
        return row;
    }

    private List<Integer> wayBetween(int from, int to) {
        int[] before = new int[boxes];
        Arrays.fill(before, -1);
        before[from] = from;
        List<Integer> queue = new ArrayList<>(List.of(from));
        for (int i = 0; i < queue.size(); i++) {
            for (int box = 0; box < boxes; box++) {
                if (before[box] == -1 && lines[queue.get(i)][box]) {
                    before[box] = queue.get(i);
                    queue.add(box);
                }
            }
        }
        List<Integer> way = new ArrayList<>();
        for (int box = to; before[to] != -1 && way.size() < boxes; box = before[box]) {
            way.add(box);
            if (box == from) {
                break;
            }
        }
        Collections.reverse(way);
        return way;
    }

    private void tellWay(List<Integer> way) {
        for (int i = 0; i < way.size(); i++) {
            boolean inside = i > 0 && i + 1 < way.size();
            boolean silent = way.get(i) > 5 || inside && dice.nextInt(3) == 0;
            int hop = silent ? -1 : way.get(i);
            int got = net.hop(hop);
            see("hop(" + hop + ")", got, model.hop(hop));
            if (got == NetShape.FULL && way.get(i) < 6) {
                see("hop(" + way.get(i) + ")", net.hop(way.get(i)), model.hop(way.get(i)));
            }
        }
        see("trace()", net.trace(), model.trace());
        see("drop()", net.drop(), model.drop());
    }

    private void tellNames() {
        int a = dice.nextInt(6);
        int b = dice.nextInt(6);
        boolean one = dice.nextInt(4) == 0;
        see("tell(" + a + ", " + b + ", " + one + ")", net.tell(a, b, one), model.tell(a, b, one));
    }

    private void askAll() {
        if (calls > CALLS - 70) {
            return;
        }
        see("nets()", net.nets(), model.nets());
        see("shape(0)", net.shape(0), model.shape(0));
        see("shape(1)", net.shape(1), model.shape(1));
        see("falses()", net.falses(), model.falses());
        see("next()", net.next(), model.next());
        see("worst()", net.worst(), model.worst());
        see("count(4)", net.count(4), model.count(4));
        for (int i = 0; i < 3; i++) {
            int k = dice.nextInt(model.nets() + 1);
            for (int silent = 0; silent < 4; silent++) {
                see("boxOf(" + k + ", " + silent + ")", net.boxOf(k, silent), model.boxOf(k, silent));
            }
            int a = dice.nextInt(6);
            int b = dice.nextInt(6);
            see("far(" + k + ", " + a + ", " + b + ")", net.far(k, a, b), model.far(k, a, b));
        }
        for (int a = 0; a < 6; a++) {
            for (int b = a; b < 6; b++) {
                see("sure(" + b + ", " + a + ")", net.sure(b, a), model.sure(b, a));
            }
        }
    }

    private void see(String call, int got, int want) {
        calls++;
        told.append(call).append(" ").append(want).append("; ");
        check.due("run " + run + ": " + call, got, want);
    }
}
