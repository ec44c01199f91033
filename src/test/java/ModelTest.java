import java.util.Random;

/** Long runs of calls, each answer beside the model's. The seeds are fixed: every run is the same. */
public final class ModelTest {
    private static final int CALLS = 512;

    private final Check check;
    private final int run;
    private final Random dice;
    private final NetShape net = new NetShape();
    private final Model model = new Model();
    private final StringBuilder told = new StringBuilder();
    /** How many NAMES a run draws from: few make clashes likely. */
    private final int names;
    private final boolean tellsMuch;
    private int calls;

    private ModelTest(Check check, int run) {
        this.check = check;
        this.run = run;
        dice = new Random(7919L * run + 17);
        names = 3 + run % 4;
        tellsMuch = run % 3 == 0;
    }

    public static void main(String[] args) {
        Check check = new Check("ModelTest");
        int runs = args.length > 0 ? Integer.parseInt(args[0]) : 150;
        int first = args.length > 1 ? Integer.parseInt(args[1]) : 0;
        for (int run = first; run < first + runs; run++) {
            new ModelTest(check, run).go();
        }
        check.close();
    }

    private void go() {
        int wrongBefore = check.wrong();
        // a round makes two calls at most
        while (calls + 2 <= CALLS && check.wrong() == wrongBefore) {
            if (dice.nextInt(100) < 45) {
                tellSomething();
            } else {
                askSomething();
            }
        }
        if (check.wrong() > wrongBefore) {
            System.out.println("run " + run + ": " + told);
        }
    }

    private void tellSomething() {
        switch (dice.nextInt(tellsMuch ? 14 : 40)) {
            case 0 -> {
                int trace = dice.nextInt(8) - 1;
                see("forget(" + trace + ")", net.forget(trace), model.forget(trace));
            }
            case 1 -> see("drop()", net.drop(), model.drop());
            case 2, 3 -> {
                int a = anyName();
                int b = anyName();
                boolean one = dice.nextInt(3) == 0;
                see("tell(" + a + ", " + b + ", " + one + ")", net.tell(a, b, one), model.tell(a, b, one));
            }
            case 4 -> {
                if (dice.nextInt(4) == 0) {
                    see("untell()", net.untell(), model.untell());
                }
            }
            default -> tellHop();
        }
    }

    private void tellHop() {
        int atHand = model.count(3);
        if (atHand >= 2 && dice.nextInt(6) < atHand || model.count(0) == 6 && dice.nextInt(4) == 0) {
            see("trace()", net.trace(), model.trace());
            if (model.count(0) == 6 && dice.nextInt(3) == 0) {
                int trace = dice.nextInt(6);
                see("forget(" + trace + ")", net.forget(trace), model.forget(trace));
            }
            return;
        }
        int name = atHand > 0 && dice.nextInt(3) == 0 ? -1 : anyName();
        see("hop(" + name + ")", net.hop(name), model.hop(name));
    }

    private void askSomething() {
        int k = dice.nextInt(Math.max(1, model.nets()) + 1) - (dice.nextInt(20) == 0 ? 1 : 0);
        int a = anyName();
        int b = anyName();
        int what = dice.nextInt(7) - 1;
        switch (dice.nextInt(10)) {
            case 0 -> see("nets()", net.nets(), model.nets());
            case 1 -> see("shape(" + what + ")", net.shape(what), model.shape(what));
            case 2 -> see("boxOf(" + k + ", " + what + ")", net.boxOf(k, what), model.boxOf(k, what));
            case 3 -> see("far(" + k + ", " + a + ", " + b + ")", net.far(k, a, b), model.far(k, a, b));
            case 4 -> see("sure(" + a + ", " + b + ")", net.sure(a, b), model.sure(a, b));
            case 5 -> see("falses()", net.falses(), model.falses());
            case 6 -> see("next()", net.next(), model.next());
            case 7 -> see("worst()", net.worst(), model.worst());
            case 8 -> see("count(" + what + ")", net.count(what), model.count(what));
            default -> see("at(" + what + ", " + a + ")", net.at(what, a), model.at(what, a));
        }
    }

    private int anyName() {
        int odd = dice.nextInt(60);
        if (odd == 0) {
            return -1 - dice.nextInt(2);
        }
        return odd == 1 ? 6 + dice.nextInt(2) : dice.nextInt(names);
    }

    private void see(String call, int got, int want) {
        calls++;
        told.append(call).append(" ").append(want).append("; ");
        check.due("run " + run + ": " + call, got, want);
    }
}
