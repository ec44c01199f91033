import java.util.function.ToIntFunction;

/** "An object is used for at most 512 calls": up to its 512th call each answer is as due. */
public final class LongUseTest extends Rig {
    private static final int CALLS = 512;
    private static final Check CHECK = new Check("LongUseTest");

    private final String title;
    private final NetShape net = new NetShape();
    private int calls;

    private LongUseTest(String title) {
        this.title = title;
    }

    public static void main(String[] args) {
        rowsAreDropped();
        rowsBecomeTracesAndGo();
        silentHopsComeAndGo();
        namesAreToldAndUntold();
        refusedAllTheTime();
        askedAllTheTime();
        changedAndAsked();
        manyObjects();
        CHECK.close();
    }

    private boolean hasCallsFor(int more) {
        return calls + more <= CALLS;
    }

    private void due(String call, ToIntFunction<NetShape> made, int want) {
        calls++;
        CHECK.due(title + ": call " + calls + ", " + call, made.applyAsInt(net), want);
    }

    private void dueRow(String row, int number) {
        for (int i = 0; i < row.length(); i++) {
            int hop = hopOf(row.charAt(i));
            due("hop", x -> x.hop(hop), i + 1);
        }
        due("trace", NetShape::trace, number);
    }

    private void used() {
        CHECK.due(title + ": calls in all", calls, CALLS);
    }

    private static void rowsAreDropped() {
        LongUseTest use = new LongUseTest("rows are dropped");
        while (use.hasCallsFor(8)) {
            for (int i = 0; i < 4; i++) {
                use.due("SILENT", x -> x.hop(-1), i + 1);
            }
            use.due("a NAME", x -> x.hop(5), 5);
            use.due("SILENT", x -> x.hop(-1), FULL);
            use.due("a NAME", x -> x.hop(0), 6);
            use.due("drop", NetShape::drop, 6);
        }
        use.used();
    }

    private static void rowsBecomeTracesAndGo() {
        LongUseTest use = new LongUseTest("TRACES go");
        for (int t = 0; t < 5; t++) {
            use.dueRow("01", t);
        }
        while (use.hasCallsFor(5)) {
            use.dueRow("23", 5);
            use.due("a seventh TRACE", NetShape::trace, FULL);
            use.due("forget", x -> x.forget(5), 5);
        }
        use.due("the last but one", NetShape::nets, 1);
        use.due("the last", x -> x.shape(0), 2);
        use.used();
    }

    private static void silentHopsComeAndGo() {
        LongUseTest use = new LongUseTest("SILENT HOPS come and go");
        while (use.hasCallsFor(8)) {
            use.dueRow("0....5", 0);
            use.due("forget", x -> x.forget(0), 0);
        }
        use.used();
    }

    private static void namesAreToldAndUntold() {
        LongUseTest use = new LongUseTest("told and untold");
        while (use.hasCallsFor(16)) {
            for (int a = 0; a < 6; a++) {
                for (int b = a + 1; b < 6; b++) {
                    int low = a;
                    int high = b;
                    use.due("APART", x -> x.tell(high, low, false), 1);
                }
            }
            use.due("fifteen times", NetShape::untell, 15);
        }
        use.used();
        use = new LongUseTest("ONE BOX and untold");
        while (use.hasCallsFor(8)) {
            for (int a = 0; a < 5; a++) {
                int low = a;
                use.due("ONE BOX", x -> x.tell(low, low + 1, true), 1);
            }
            use.due("by others", x -> x.tell(5, 0, true), TWICE);
            use.due("APART", x -> x.tell(5, 0, false), WRONG);
            use.due("five times", NetShape::untell, 5);
        }
        use.used();
    }

    private static void refusedAllTheTime() {
        LongUseTest use = new LongUseTest("refused");
        use.dueRow("0.1", 0);
        use.due("APART", x -> x.tell(0, 1, false), 1);
        use.due("at hand", x -> x.hop(3), 1);
        while (use.hasCallsFor(15)) {
            use.due("hop", x -> x.hop(6), BAD);
            use.due("hop", x -> x.hop(3), TWICE);
            use.due("trace", NetShape::trace, NOT);
            use.due("forget", x -> x.forget(1), BAD);
            use.due("tell", x -> x.tell(1, 0, false), TWICE);
            use.due("tell", x -> x.tell(1, 0, true), WRONG);
            use.due("boxOf", x -> x.boxOf(1, 0), BAD);
            use.due("count", x -> x.count(5), BAD);
        }
        while (use.hasCallsFor(5)) {
            use.due("at", x -> x.at(0, 3), BAD);
        }
        use.due("nets", NetShape::nets, 1);
        use.due("boxOf", x -> x.boxOf(0, 0), 10);
        use.due("count", x -> x.count(0), 1);
        use.due("untell", NetShape::untell, 1);
        use.used();
    }

    private static void askedAllTheTime() {
        LongUseTest use = new LongUseTest("asked");
        use.dueRow("4.3", 0);
        use.dueRow("1.0", 1);
        use.dueRow("2.5", 2);
        while (use.hasCallsFor(10)) {
            use.due("nets", NetShape::nets, 48);
            use.due("shape", x -> x.shape(0), 6);
            use.due("shape", x -> x.shape(1), 5);
            use.due("boxOf", x -> x.boxOf(47, 2), 4);
            use.due("far", x -> x.far(47, 3, 4), 2);
            use.due("sure", x -> x.sure(4, 3), 0);
            use.due("falses", NetShape::falses, 0);
            use.due("next", NetShape::next, 2);
            use.due("worst", NetShape::worst, 20);
            use.due("at", x -> x.at(2, 1), -1);
        }
        use.used();
    }

    /** Each question behind a change, so that each answer is made anew. */
    private static void changedAndAsked() {
        LongUseTest use = new LongUseTest("changed and asked");
        use.dueRow("0.1", 0);
        use.dueRow("2.3", 1);
        while (use.hasCallsFor(12)) {
            use.due("NETS of two TRACES", NetShape::nets, 4);
            use.dueRow("02", 2);
            use.due("NETS of three", NetShape::nets, 3);
            use.due("ONE BOX", x -> x.tell(0, 2, true), 1);
            use.due("none FITS", NetShape::nets, 0);
            use.due("the TRACE that is false", NetShape::falses, 4);
            use.due("untell", NetShape::untell, 1);
            use.due("NEXT of three", NetShape::next, 3);
            use.due("forget", x -> x.forget(2), 2);
            use.due("NEXT of two", NetShape::next, 2);
        }
        use.used();
    }

    private static void manyObjects() {
        NetShape first = of("0.1", "2.3");
        hand(first, "4");
        first.tell(0, 1, false);
        for (int i = 0; i < 200; i++) {
            NetShape x = of("012", "02");
            x.tell(1, 5, true);
            hand(x, "3.");
            CHECK.due("another object", x.nets() * 10 + x.untell(), 1);
        }
        CHECK.due("objects share no NETS", first.nets(), 4);
        CHECK.due("nor HOPS at hand", first.drop(), 1);
        CHECK.due("nor what is told", first.untell(), 1);
    }
}
