import java.util.ArrayList;
import java.util.List;
import java.util.function.ToIntFunction;

/** A call as it is made on the program and on the model; a question changes nothing by any answer. */
record Call(String text, boolean question, ToIntFunction<NetShape> real, ToIntFunction<Model> model) {
    private static final int LEAST = Integer.MIN_VALUE, GREATEST = Integer.MAX_VALUE;
    private static final int[] NAMES = {LEAST, -2, -1, 0, 1, 2, 3, 4, 5, 6, GREATEST};
    private static final int[] TRACES = {LEAST, -1, 0, 1, 2, 3, 4, 5, 6, GREATEST};
    private static final int[] PLACES = {LEAST, -1, 0, 1, 2, 3, 4, 5, 6, GREATEST};
    private static final int[] NETS = {LEAST, -1, 0, 1, 2, 3, 4, 47, 48, GREATEST};
    private static final int[] SILENTS = {LEAST, -1, 0, 1, 2, 3, 4, GREATEST};
    private static final int[] WHATS = {LEAST, -1, 0, 1, 2, 3, 4, 5, GREATEST};

    /** Each call of the face, with each number at the edges of its bounds. */
    static List<Call> all() {
        List<Call> calls = new ArrayList<>();
        addTelling(calls);
        addQuestions(calls);
        addQuestionsOfNames(calls);
        return calls;
    }

    static Call hop(int name) {
        return new Call("hop(" + name + ")", false, x -> x.hop(name), m -> m.hop(name));
    }

    static Call trace() {
        return new Call("trace()", false, NetShape::trace, Model::trace);
    }

    static Call tell(int a, int b, boolean one) {
        return new Call("tell(" + a + ", " + b + ", " + one + ")", false,
                x -> x.tell(a, b, one), m -> m.tell(a, b, one));
    }

    private static void addTelling(List<Call> calls) {
        for (int name : NAMES) {
            calls.add(hop(name));
        }
        calls.add(new Call("drop()", false, NetShape::drop, Model::drop));
        calls.add(trace());
        for (int trace : TRACES) {
            calls.add(new Call("forget(" + trace + ")", false, x -> x.forget(trace), m -> m.forget(trace)));
        }
        for (int a : NAMES) {
            for (int b : NAMES) {
                calls.add(tell(a, b, true));
                calls.add(tell(a, b, false));
            }
        }
        calls.add(new Call("untell()", false, NetShape::untell, Model::untell));
        for (int trace : TRACES) {
            for (int i : PLACES) {
                calls.add(new Call("at(" + trace + ", " + i + ")", true, x -> x.at(trace, i), m -> m.at(trace, i)));
            }
        }
    }

    private static void addQuestions(List<Call> calls) {
        calls.add(new Call("nets()", true, NetShape::nets, Model::nets));
        calls.add(new Call("falses()", true, NetShape::falses, Model::falses));
        calls.add(new Call("next()", true, NetShape::next, Model::next));
        calls.add(new Call("worst()", true, NetShape::worst, Model::worst));
        for (int what : WHATS) {
            calls.add(new Call("shape(" + what + ")", true, x -> x.shape(what), m -> m.shape(what)));
            calls.add(new Call("count(" + what + ")", true, x -> x.count(what), m -> m.count(what)));
        }
        for (int k : NETS) {
            for (int silent : SILENTS) {
                calls.add(new Call("boxOf(" + k + ", " + silent + ")", true,
                        x -> x.boxOf(k, silent), m -> m.boxOf(k, silent)));
            }
        }
    }

    private static void addQuestionsOfNames(List<Call> calls) {
        for (int a : NAMES) {
            for (int b : NAMES) {
                calls.add(new Call("sure(" + a + ", " + b + ")", true, x -> x.sure(a, b), m -> m.sure(a, b)));
                for (int k : NETS) {
                    calls.add(new Call("far(" + k + ", " + a + ", " + b + ")", true,
                            x -> x.far(k, a, b), m -> m.far(k, a, b)));
                }
            }
        }
    }
}
