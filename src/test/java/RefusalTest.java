import java.util.ArrayList;
import java.util.List;

/** "Refused, and nothing changes, the first that fits": the order of refusals, and what they leave. */
public final class RefusalTest extends Rig {
    private static final Check CHECK = new Check("RefusalTest");

    /**
     * How objects stand when a call is made: "0.1" is a TRACE, "+0." HOPS at hand, "=01" and "#01"
     * tell ONE BOX and APART.
     */
    private static final String[] STATES = {
            "", "+0", "+.", "+0....", "+....0", "+012345", "+01234.", "+0..123", "+.01",
            "=01", "#01", "=01 =12 #23", "#01 #12 #02 +01", "=45 =34 =23 =12 =01",
            "01", "54", "0.1", "0.1 2.3", "0.1 2.3 02", "0....5", "0....5 +1", "0..1 2..3 +45", "0...1 +2.",
            "012345", "4.3 1.0 2.5", "4.3 1.0 2.5 +0.1", "31...2 5.4031", "1.2 15 =54 =50",
            "01 12 23 34 45 50", "01 12 23 34 45 50 +23", "01 12 23 34 45 50 +2", "01 12 23 34 45 50 +.2",
            "0.1 1.2 2.3 3.4 45 50 +12.", "01 01 01 01 01 01 =23 #24 +.",
            "012 02", "012 02 +1.", "01 =01", "01 12 23 34 45 50 =01 +012345", "0....1 01 =23 #45 +2",
            "0..1 01 23 24 =25 #05 +34"};

    public static void main(String[] args) {
        hopIsBadThenTwiceThenFull();
        traceIsFullAheadOfNot();
        tellIsBadThenTwiceThenWrong();
        shapeIsBadThenNot();
        boxOfIsNotAheadOfBad();
        farIsNotAheadOfBad();
        sureIsNotAheadOfBad();
        refusedBetweenQuestions();
        for (String state : STATES) {
            eachCallAt(state);
        }
        CHECK.close();
    }

    private static void due(String what, int got, int want) {
        CHECK.due(what, got, want);
    }

    private static void hopIsBadThenTwiceThenFull() {
        NetShape x = new NetShape();
        hand(x, "01234.");
        due("BAD, though six are at hand", x.hop(6), BAD);
        due("BAD, though six are at hand", x.hop(-2), BAD);
        due("TWICE, though six are at hand", x.hop(0), TWICE);
        due("TWICE, though six are at hand", x.hop(4), TWICE);
        due("FULL of HOPS", x.hop(5), FULL);
        due("FULL of HOPS", x.hop(-1), FULL);
        x = of("0....1");
        hand(x, "2");
        due("BAD, though there are four SILENT HOPS", x.hop(-2), BAD);
        due("TWICE, though there are four SILENT HOPS", x.hop(2), TWICE);
        due("FULL of SILENT HOPS", x.hop(-1), FULL);
        due("which a NAME is not", x.hop(1), 2);
    }

    private static void traceIsFullAheadOfNot() {
        for (String row : new String[] {"", "0", ".", ".0", "0.", "..", "01", "0.1"}) {
            NetShape x = of("01", "12", "23", "34", "45");
            hand(x, row);
            boolean good = row.equals("01") || row.equals("0.1");
            due("five TRACES and <" + row + ">", x.trace(), good ? 5 : NOT);
            x = of("01", "12", "23", "34", "45", "50");
            hand(x, row);
            due("six TRACES and <" + row + ">", x.trace(), FULL);
            due("HOPS at hand stay", x.drop(), row.length());
        }
    }

    private static void tellIsBadThenTwiceThenWrong() {
        NetShape x = new NetShape();
        due("BAD, though a NAME is one box with itself", x.tell(3, 3, true), BAD);
        due("BAD, though a NAME is not APART from itself", x.tell(3, 3, false), BAD);
        due("BAD, though no NAME is like itself", x.tell(6, 6, true), BAD);
        due("ONE BOX", x.tell(0, 1, true), 1);
        due("TWICE", x.tell(1, 0, true), TWICE);
        due("WRONG", x.tell(1, 0, false), WRONG);
        due("APART", x.tell(1, 2, false), 1);
        due("TWICE", x.tell(2, 1, false), TWICE);
        due("WRONG", x.tell(2, 1, true), WRONG);
        due("WRONG by others", x.tell(0, 2, true), WRONG);
        due("APART by others is neither TWICE nor WRONG", x.tell(0, 2, false), 1);
        due("ONE BOX", x.tell(2, 3, true), 1);
        due("WRONG by others of both", x.tell(3, 0, true), WRONG);
        due("told, and not refused", x.untell(), 4);
    }

    private static void shapeIsBadThenNot() {
        NetShape x = of("012", "02");
        due("BAD, though none FITS", x.shape(2), BAD);
        due("BAD, though none FITS", x.shape(-1), BAD);
        due("NOT: BOXES", x.shape(0), NOT);
        due("NOT: LINES", x.shape(1), NOT);
        x.forget(1);
        due("BAD", x.shape(2), BAD);
        due("BAD", x.shape(-1), BAD);
        due("BOXES", x.shape(0), 3);
        due("LINES", x.shape(1), 2);
    }

    private static void boxOfIsNotAheadOfBad() {
        NetShape x = of("0.1", "01");
        for (int no : new int[] {LEAST, -1, 1, GREATEST}) {
            due("NOT ahead of no NET", x.boxOf(no, 0), NOT);
            due("NOT ahead of no SILENT HOP", x.boxOf(0, no), NOT);
        }
        x.forget(1);
        due("BAD: no NET", x.boxOf(1, 0), BAD);
        due("BAD: no SILENT HOP", x.boxOf(0, 1), BAD);
        due("neither", x.boxOf(0, 0), 10);
    }

    private static void farIsNotAheadOfBad() {
        NetShape x = of("0.1", "01");
        for (int no : new int[] {LEAST, -1, 2, 6, GREATEST}) {
            due("NOT ahead of no NET", x.far(no, 0, 1), NOT);
            due("NOT ahead of no NAME", x.far(0, no, 1), NOT);
            due("NOT ahead of no NAME behind", x.far(0, 0, no), NOT);
        }
        x.forget(1);
        due("BAD: no NET", x.far(1, 0, 1), BAD);
        due("BAD: a NAME in no TRACE", x.far(0, 2, 1), BAD);
        due("BAD: a NAME in no TRACE behind", x.far(0, 0, 2), BAD);
        due("neither", x.far(0, 0, 1), 2);
    }

    private static void sureIsNotAheadOfBad() {
        NetShape x = of("0.1", "01");
        for (int no : new int[] {LEAST, -1, 2, 6, GREATEST}) {
            due("NOT ahead of no NAME", x.sure(no, 1), NOT);
            due("NOT ahead of no NAME behind", x.sure(0, no), NOT);
        }
        x.forget(1);
        due("BAD: a NAME in no TRACE", x.sure(2, 1), BAD);
        due("BAD: a NAME in no TRACE behind", x.sure(0, 2), BAD);
        due("neither", x.sure(0, 1), 0);
    }

    private static void refusedBetweenQuestions() {
        NetShape x = of("0.1", "2.3");
        x.tell(0, 1, false);
        hand(x, "4");
        CHECK.same("NETS before", allBoxes(x), "2 0, 2 1, 3 0, 3 1");
        due("BAD", x.hop(6), BAD);
        due("TWICE", x.hop(4), TWICE);
        due("NOT", x.trace(), NOT);
        due("BAD", x.forget(2), BAD);
        due("BAD", x.tell(2, 2, true), BAD);
        due("TWICE", x.tell(1, 0, false), TWICE);
        due("WRONG", x.tell(0, 1, true), WRONG);
        due("BAD", x.boxOf(4, 0), BAD);
        due("BAD", x.far(0, 4, 0), BAD);
        due("BAD", x.sure(0, 4), BAD);
        due("BAD", x.shape(2), BAD);
        due("BAD", x.count(5), BAD);
        CHECK.same("NETS behind", allBoxes(x), "2 0, 2 1, 3 0, 3 1");
        due("HOPS at hand", x.drop(), 1);
        due("TRACES", x.count(0), 2);
        due("told", x.untell(), 1);
    }

    /** Each call answers as the model does; a question or a refused call leaves all later answers. */
    private static void eachCallAt(String state) {
        List<Call> way = callsOf(state);
        String later = laterAnswers(made(way));
        for (Call call : Call.all()) {
            Model model = new Model();
            for (Call step : way) {
                step.model().applyAsInt(model);
            }
            int want = call.model().applyAsInt(model);
            NetShape x = made(way);
            String what = "<" + state + ">: " + call.text();
            due(what, call.real().applyAsInt(x), want);
            if (want < NONE || call.question()) {
                due(what + " again", call.real().applyAsInt(x), want);
                CHECK.holds(what + " changes nothing", laterAnswers(x).equals(later));
            }
        }
    }

    private static NetShape made(List<Call> way) {
        NetShape x = new NetShape();
        for (Call step : way) {
            step.real().applyAsInt(x);
        }
        return x;
    }

    private static List<Call> callsOf(String state) {
        List<Call> calls = new ArrayList<>();
        for (String word : state.isEmpty() ? new String[0] : state.split(" ")) {
            char kind = word.charAt(0);
            if (kind == '=' || kind == '#') {
                calls.add(Call.tell(hopOf(word.charAt(1)), hopOf(word.charAt(2)), kind == '='));
                continue;
            }
            for (char sign : word.replace("+", "").toCharArray()) {
                calls.add(Call.hop(hopOf(sign)));
            }
            if (kind != '+') {
                calls.add(Call.trace());
            }
        }
        return calls;
    }

    /** All that can be asked, and then calls whose answers tell what is at hand and what is told. */
    private static String laterAnswers(NetShape x) {
        StringBuilder answers = new StringBuilder();
        addAnswers(answers, x);
        for (int name = -1; name < 6; name++) {
            answers.append(x.hop(name)).append(' ');
        }
        answers.append(x.trace()).append(' ').append(x.forget(0)).append(' ').append(x.trace()).append(' ');
        for (int t = 0; t < 6; t++) {
            answers.append(rowOf(x, t)).append(' ');
        }
        answers.append(x.drop()).append(' ').append(x.nets()).append(" told");
        for (int a = 0; a < 6; a++) {
            for (int b = a + 1; b < 6; b++) {
                answers.append(' ').append(x.tell(a, b, false)).append(' ').append(x.tell(a, b, true));
            }
        }
        return answers.append(' ').append(x.nets()).append(' ').append(x.untell()).toString();
    }

    private static void addAnswers(StringBuilder answers, NetShape x) {
        for (int what = 0; what < 5; what++) {
            answers.append(x.count(what)).append(' ');
        }
        for (int t = 0; t < 6; t++) {
            answers.append(rowOf(x, t)).append(' ');
        }
        int last = x.nets() - 1;
        answers.append(last).append(' ').append(x.shape(0)).append(' ').append(x.shape(1)).append(' ');
        answers.append(x.falses()).append(' ').append(x.next()).append(' ').append(x.worst()).append(' ');
        answers.append(boxes(x, 0)).append(' ').append(boxes(x, last)).append(' ');
        for (int a = 0; a < 6; a++) {
            for (int b = a + 1; b < 6; b++) {
                answers.append(x.sure(a, b)).append(' ').append(x.far(0, a, b)).append(' ');
                answers.append(x.far(last, b, a)).append(' ');
            }
        }
    }
}
