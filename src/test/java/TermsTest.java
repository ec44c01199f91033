/** The bounds that the section "Terms" names, a method for each sentence. */
public final class TermsTest extends Rig {
    private static final Check CHECK = new Check("TermsTest");

    public static void main(String[] args) {
        namesAreZeroToFive();
        namesOfQuestionsAreZeroToFive();
        tracesAreNumberedFromZero();
        sixTracesAtMost();
        twoHopsAtLeast();
        sixHopsAtMost();
        firstAndLastHopAreNames();
        noNameTwice();
        fourSilentHopsOfOneRow();
        fourSilentHopsOfAllTraces();
        silentHopsGivenBack();
        silentHopsAreNumberedByTraces();
        oneBoxByOthers();
        boxesAreToldByTheLeast();
        boxesAreOfNamesInTraces();
        newBoxesOfOneOrSeveral();
        twoBoxesHaveOneLine();
        noTwoHopsOfATraceHaveOneBox();
        noWayIsShorter();
        noWayIsShorterByOneBox();
        netsThatDifferInNamesOfNewBoxes();
        fewestBoxesThenLines();
        orderOfNets();
        mostNets();
        sureOpenNever();
        oneBoxIsNeverJoinedWithItself();
        farFromZeroToNine();
        falseRowsFromNoneToAll();
        falseRowsAreTheFewestThenTheLeast();
        nextIsTheLeastOfSeveral();
        CHECK.close();
    }

    private static void due(String what, int got, int want) {
        CHECK.due(what, got, want);
    }

    private static void same(String what, String got, String want) {
        CHECK.same(what, got, want);
    }

    private static void namesAreZeroToFive() {
        NetShape x = new NetShape();
        due("the least NAME", x.hop(0), 1);
        due("the greatest NAME", x.hop(5), 2);
        due("SILENT is taken", x.hop(-1), 3);
        due("less than SILENT", x.hop(-2), BAD);
        due("more than a NAME", x.hop(6), BAD);
        due("the least number", x.hop(LEAST), BAD);
        due("the greatest number", x.hop(GREATEST), BAD);
        due("tell of the least and the greatest NAME", x.tell(0, 5, true), 1);
        due("tell of the greatest and the least NAME", x.tell(5, 0, true), TWICE);
        for (int no : new int[] {LEAST, -2, -1, 6, GREATEST}) {
            due("tell of no NAME " + no + " first", x.tell(no, 5, true), BAD);
            due("tell of no NAME " + no + " behind", x.tell(0, no, true), BAD);
            due("APART of no NAME " + no + " first", x.tell(no, 1, false), BAD);
            due("APART of no NAME " + no + " behind", x.tell(4, no, false), BAD);
        }
    }

    private static void namesOfQuestionsAreZeroToFive() {
        NetShape x = of("012345");
        due("far of the least and the greatest NAME", x.far(0, 0, 5), 5);
        due("far of the greatest and the least NAME", x.far(0, 5, 0), 5);
        due("sure of the least NAME", x.sure(0, 1), 2);
        due("sure of the greatest NAME", x.sure(5, 4), 2);
        for (int no : new int[] {LEAST, -2, -1, 6, GREATEST}) {
            due("far of no NAME " + no + " first", x.far(0, no, 5), BAD);
            due("far of no NAME " + no + " behind", x.far(0, 0, no), BAD);
            due("sure of no NAME " + no + " first", x.sure(no, 1), BAD);
            due("sure of no NAME " + no + " behind", x.sure(0, no), BAD);
        }
    }

    private static void tracesAreNumberedFromZero() {
        NetShape x = new NetShape();
        due("no TRACE 0 yet", x.at(0, 0), BAD);
        String[] rows = {"01", "12", "23", "34", "45", "50"};
        for (int t = 0; t < 6; t++) {
            hand(x, rows[t]);
            due("the number of a TRACE", x.trace(), t);
            same("TRACE " + t, rowOf(x, t), rows[t]);
            due("none behind TRACE " + t, x.at(t + 1, 0), BAD);
            due("none to forget behind TRACE " + t, x.forget(t + 1), BAD);
        }
        due("none ahead of TRACE 0", x.at(-1, 0), BAD);
        due("none to forget ahead of TRACE 0", x.forget(-1), BAD);
        due("TRACE 0 goes", x.forget(0), 5);
        for (int t = 0; t < 5; t++) {
            same("TRACE " + t + " has a number less", rowOf(x, t), rows[t + 1]);
        }
        due("TRACE 5 is none then", x.at(5, 0), BAD);
    }

    private static void sixTracesAtMost() {
        NetShape x = of("01", "01", "01", "01", "01");
        hand(x, "10");
        due("the sixth TRACE", x.trace(), 5);
        hand(x, "23");
        due("the seventh TRACE", x.trace(), FULL);
        due("it stays at hand", x.count(3), 2);
        due("six TRACES stay", x.count(0), 6);
        due("the last TRACE goes", x.forget(5), 5);
        due("room for one", x.trace(), 5);
        same("it stands behind all", rowOf(x, 5), "23");
        hand(x, "45");
        due("and for no more", x.trace(), FULL);
        for (int left = 5; left >= 0; left--) {
            due("TRACES left", x.forget(0), left);
        }
        due("the first TRACE again", x.trace(), 0);
    }

    private static void twoHopsAtLeast() {
        NetShape x = new NetShape();
        due("no HOPS", x.trace(), NOT);
        hand(x, "3");
        due("one HOP", x.trace(), NOT);
        hand(x, "4");
        due("two HOPS", x.trace(), 0);
        due("HOP 0 of two", x.at(0, 0), 3);
        due("HOP 1 of two", x.at(0, 1), 4);
        due("no HOP 2 of two", x.at(0, 2), BAD);
        due("no HOP ahead of them", x.at(0, -1), BAD);
        due("no HOPS at hand then", x.trace(), NOT);
    }

    private static void sixHopsAtMost() {
        String longest = "012345";
        for (int length = 2; length <= 6; length++) {
            NetShape x = of(longest.substring(0, length));
            due("HOP " + (length - 1) + " of " + length, x.at(0, length - 1), length - 1);
            due("no HOP behind the last of " + length, x.at(0, length), BAD);
        }
        NetShape x = new NetShape();
        hand(x, "0..12");
        due("the sixth HOP", x.hop(3), 6);
        due("the seventh HOP, a NAME", x.hop(4), FULL);
        due("the seventh HOP, SILENT", x.hop(-1), FULL);
        due("six stay", x.count(3), 6);
        due("they are a TRACE", x.trace(), 0);
        same("of six HOPS", rowOf(x, 0), "0..123");
        x = new NetShape();
        hand(x, "01234.");
        due("six HOPS, the last SILENT", x.trace(), NOT);
        due("which no NAME mends", x.hop(5), FULL);
        due("but drop", x.drop(), 6);
    }

    private static void firstAndLastHopAreNames() {
        for (String row : new String[] {".", "..", ".0", "0.", ".0.", ".01", "01.", "....", "0....", ".01234", "01234."}) {
            NetShape x = new NetShape();
            hand(x, row);
            due("trace of " + row, x.trace(), NOT);
            due("it stays at hand: " + row, x.count(3), row.length());
            due("no TRACE of " + row, x.count(0), 0);
        }
        for (String row : new String[] {"01", "0.1", "0..1", "0...1", "0....1", "0.1..2", "01...2"}) {
            NetShape x = new NetShape();
            hand(x, row);
            due("trace of " + row, x.trace(), 0);
            same("the TRACE", rowOf(x, 0), row);
        }
    }

    private static void noNameTwice() {
        NetShape x = new NetShape();
        for (int name = 0; name <= 5; name++) {
            due("a NAME that is not in the row", x.hop(name), name + 1);
            for (int before = 0; before <= name; before++) {
                due("NAME " + before + " twice", x.hop(before), TWICE);
            }
        }
        due("a TRACE of all NAMES", x.trace(), 0);
        due("a NAME of a TRACE, in another row", x.hop(0), 1);
        due("SILENT", x.hop(-1), 2);
        due("SILENT twice", x.hop(-1), 3);
        due("a NAME twice with SILENT ones between", x.hop(0), TWICE);
        due("dropped", x.drop(), 3);
        due("a NAME of a dropped row", x.hop(0), 1);
        due("ONE BOX of 0 and 1", x.tell(0, 1, true), 1);
        due("another NAME of the same box", x.hop(1), 2);
        due("the row is a TRACE", x.trace(), 1);
        due("which nothing FITS", x.nets(), 0);
    }

    private static void fourSilentHopsOfOneRow() {
        NetShape x = new NetShape();
        for (int i = 1; i <= 4; i++) {
            due("a SILENT HOP at hand", x.hop(-1), i);
        }
        due("a fifth SILENT HOP at hand", x.hop(-1), FULL);
        due("a NAME behind four SILENT HOPS", x.hop(5), 5);
        due("a fifth SILENT HOP behind it", x.hop(-1), FULL);
        due("SILENT HOPS at hand are of no TRACE", x.count(1), 0);
    }

    private static void fourSilentHopsOfAllTraces() {
        String[][] ways = {
                {"0....1"}, {"0...1", "2.3"}, {"0..1", "2..3"}, {"0.1.2", "3..4"},
                {"0.1", "1.2", "3..4"}, {"0.1", "1.2", "2.3", "3.4"}, {"01", "0.1", "12", "0...3"}};
        for (String[] rows : ways) {
            NetShape x = of(rows);
            String of = String.join(" ", rows);
            due("SILENT HOPS of " + of, x.count(1), 4);
            due("a NAME behind " + of, x.hop(4), 1);
            due("a fifth SILENT HOP behind " + of, x.hop(-1), FULL);
            due("it is not at hand", x.count(3), 1);
            due("a NAME more", x.hop(5), 2);
            due("a TRACE without SILENT HOPS", x.trace(), rows.length);
        }
        NetShape x = of("0.1", "1..2");
        hand(x, "3.");
        due("the row at hand and all TRACES", x.hop(-1), FULL);
        due("a NAME instead", x.hop(4), 3);
        due("a TRACE with the fourth SILENT HOP", x.trace(), 2);
        due("SILENT HOPS then", x.count(1), 4);
    }

    private static void silentHopsGivenBack() {
        NetShape x = new NetShape();
        hand(x, "....");
        due("four are dropped", x.drop(), 4);
        hand(x, "....");
        due("and no more than four again", x.hop(-1), FULL);
        due("dropped again", x.drop(), 4);
        add(x, "0...1");
        add(x, "2.3");
        due("the fifth", x.hop(-1), FULL);
        due("the TRACE with one goes", x.forget(1), 1);
        due("one more", x.hop(-1), 1);
        due("and no more", x.hop(-1), FULL);
        due("the TRACE with three goes", x.forget(0), 0);
        hand(x, "...");
        due("three more and no more", x.hop(-1), FULL);
        due("SILENT HOPS of no TRACES", x.count(1), 0);
    }

    private static void silentHopsAreNumberedByTraces() {
        NetShape x = of("0123", "0..3", "3..0");
        same("by TRACES, then along each", allBoxes(x), "1 2 2 1");
        due("SILENT HOP 3, the last", x.boxOf(0, 3), 1);
        due("no SILENT HOP 4", x.boxOf(0, 4), BAD);
        due("none ahead of SILENT HOP 0", x.boxOf(0, -1), BAD);
        x.forget(1);
        same("those of TRACES behind get a number less", allBoxes(x), "2 1");
        due("SILENT HOP 1 is the last then", x.boxOf(0, 2), BAD);
        add(x, "02");
        x.forget(2);
        add(x, "0.2");
        same("those of a new TRACE come last", allBoxes(x), "2 1 1");
        hand(x, "1.");
        due("those at hand have no number", x.boxOf(0, 3), BAD);
    }

    private static void oneBoxByOthers() {
        NetShape x = of("01", "23", "45");
        int[][] chain = {{4, 5}, {0, 1}, {2, 3}, {5, 0}, {1, 2}};
        for (int[] pair : chain) {
            due("ONE BOX of " + pair[0] + " and " + pair[1], x.tell(pair[0], pair[1], true), 1);
        }
        for (int a = 0; a < 6; a++) {
            for (int b = 0; b < 6; b++) {
                due("ONE BOX of " + a + " and " + b + " by others", x.tell(a, b, true), a == b ? BAD : TWICE);
                due("APART of " + a + " and " + b, x.tell(a, b, false), a == b ? BAD : WRONG);
            }
        }
        due("all NAMES are one box", x.count(4), 1);
        due("told five times", x.untell(), 5);
        due("six boxes behind that", x.count(4), 6);
    }

    private static void boxesAreToldByTheLeast() {
        NetShape x = of("1.2", "15");
        same("a box of one NAME", allBoxes(x), "5");
        x.tell(5, 4, true);
        same("the lesser of two", allBoxes(x), "4");
        x.tell(3, 5, true);
        same("the least of three", allBoxes(x), "3");
        x.tell(4, 0, true);
        same("the least of four, by others", allBoxes(x), "0");
        due("no NAME but 5 of that box is in a TRACE", x.far(0, 0, 1), BAD);
        due("boxes of NAMES in TRACES", x.count(4), 3);
        due("four BOXES are not", x.shape(0), 3);
        x.untell();
        same("the NAME itself again", allBoxes(x), "5");
        x = of("3.4", "12");
        same("two boxes, rising", allBoxes(x), "1, 2");
        x.tell(0, 2, true);
        same("in ORDER by the least of a box", allBoxes(x), "0, 1");
    }

    private static void boxesAreOfNamesInTraces() {
        NetShape x = of("0.1");
        same("NAMES of the TRACE itself are no box for it", allBoxes(x), "10");
        x.tell(2, 3, true);
        same("nor a box that is told of", allBoxes(x), "10");
        hand(x, "25");
        same("nor NAMES at hand", allBoxes(x), "10");
        due("BOXES are those of TRACES", x.shape(0), 3);
        due("NAMES in TRACES", x.count(2), 2);
        x.trace();
        same("but NAMES of another TRACE", allBoxes(x), "2, 5");
        due("BOXES then", x.shape(0), 4);
        x.forget(1);
        same("until it goes", allBoxes(x), "10");
        due("NAMES in TRACES", x.count(2), 2);
    }

    private static void newBoxesOfOneOrSeveral() {
        same("NEW boxes, four of them", allBoxes(of("0....5")), "10 11 12 13");
        same("one NEW box of two", allBoxes(of("0.1", "1.0")), "10 10");
        same("one NEW box of three", allBoxes(of("0.1", "1.2", "2.0")), "10 10 10");
        same("one NEW box of four", allBoxes(of("0.1", "1.2", "2.0", "3.0")), "10 10 10 10");
        same("two NEW boxes, each of two", allBoxes(of("0..1", "0..1")), "10 11 10 11");
        same("the same, other way round", allBoxes(of("0..1", "1..0")), "10 11 11 10");
        due("NEW boxes are BOXES", of("0....5").shape(0), 6);
        due("one NEW box is one", of("0.1", "1.2", "2.0", "3.0").shape(0), 5);
    }

    private static void twoBoxesHaveOneLine() {
        due("a LINE", of("01").shape(1), 1);
        due("the same once more", of("01", "01").shape(1), 1);
        due("the other way round", of("01", "10").shape(1), 1);
        NetShape x = of("01", "23");
        due("two LINES", x.shape(1), 2);
        x.tell(0, 3, true);
        x.tell(1, 2, true);
        due("one LINE by ONE BOX", x.shape(1), 1);
        due("six TRACES, one LINE", of("45", "54", "45", "54", "45", "54").shape(1), 1);
        due("no TRACES, no LINES", new NetShape().shape(1), 0);
    }

    private static void noTwoHopsOfATraceHaveOneBox() {
        int[][] pairs = {{0, 1}, {1, 2}, {0, 2}, {0, 5}, {4, 5}, {1, 4}};
        for (int[] pair : pairs) {
            NetShape x = of("012345");
            due("some NET FITS", x.nets(), 1);
            x.tell(pair[1], pair[0], true);
            due("none with ONE BOX of " + pair[0] + " and " + pair[1], x.nets(), 0);
        }
        NetShape x = of("0.1");
        x.tell(0, 2, true);
        x.tell(2, 1, true);
        due("none with ONE BOX by a NAME in no TRACE", x.nets(), 0);
        same("SILENT HOPS of one TRACE", allBoxes(of("0..1")), "10 11");
        x = of("0.1", "23");
        same("a SILENT HOP may have any box of another TRACE", allBoxes(x), "2, 3");
        x.tell(2, 0, true);
        same("but none that its TRACE has", allBoxes(x), "3");
        x.tell(3, 1, true);
        due("the way is shorter then", x.nets(), 0);
        x = of("0.1", "23");
        x.tell(0, 1, false);
        x.tell(2, 3, false);
        x.tell(0, 2, false);
        same("APART NAMES change no NET", allBoxes(x), "2, 3");
    }

    private static void noWayIsShorter() {
        due("2 HOPS: nothing is shorter", of("01", "02", "21").nets(), 1);
        due("3 HOPS: as long", of("021", "03", "31").nets(), 1);
        due("3 HOPS: shorter", of("021", "01").nets(), 0);
        due("4 HOPS: as long", of("0231", "04", "45", "51").nets(), 1);
        due("4 HOPS: shorter", of("0231", "04", "41").nets(), 0);
        due("5 HOPS: as long", of("0...1", "02", "23", "34", "41").nets(), 1);
        due("5 HOPS: shorter", of("0...1", "02", "23", "31").nets(), 0);
        due("6 HOPS: as long", of("0....5", "01", "12", "23", "34", "45").nets(), 1);
        due("6 HOPS: shorter", of("0....5", "01", "12", "23", "35").nets(), 0);
        due("6 HOPS: far shorter", of("012345", "05").nets(), 0);
        due("a TRACE behind the other", of("05", "012345").nets(), 0);
        due("a way that none of the TRACES goes", of("0123", "245", "501").nets(), 1);
        due("a way between HOPS inside a TRACE", of("012345", "14").nets(), 0);
    }

    private static void noWayIsShorterByOneBox() {
        NetShape x = of("0123", "45");
        x.tell(0, 4, true);
        due("no way by one end", x.nets(), 1);
        x.tell(5, 2, true);
        due("a way that is shorter", x.nets(), 0);
        x.untell();
        x.tell(1, 4, true);
        x.tell(2, 5, true);
        due("a way that is as long", x.nets(), 1);
        x.untell();
        due("nothing told", x.nets(), 1);
    }

    private static void netsThatDifferInNamesOfNewBoxes() {
        due("two NEW boxes are one NET", of("0..1").nets(), 1);
        due("three NEW boxes are one NET", of("0...1").nets(), 1);
        due("four NEW boxes are one NET", of("0....1").nets(), 1);
        same("the first SILENT HOP with one has NEW 0", allBoxes(of("3.0", "2.0.4")), "10 10 11, 10 11 10");
        same("the next with another one NEW 1", allBoxes(of("3.2.1", "2.0")), "10 11 10, 10 11 11");
        same("and so on", allBoxes(of("1.4.2", "0.1.3")), "10 11 10 12, 10 11 12 10");
        same("NAMES between do not count", allBoxes(of("0..1", "02")), "2 10");
    }

    private static void fewestBoxesThenLines() {
        NetShape x = of("01", "0.2", "34");
        same("fewest LINES of those with five BOXES", allBoxes(x), "1");
        due("BOXES", x.shape(0), 5);
        due("LINES", x.shape(1), 3);
        x = of("2.3", "04", "1.2", "5.14");
        due("fewest BOXES", x.shape(0), 6);
        due("though a NEW box would need fewer LINES", x.shape(1), 7);
        due("NETS", x.nets(), 3);
    }

    private static void orderOfNets() {
        same("boxes of NAMES, rising", allBoxes(of("2.4", "315")), "1, 3, 5");
        same("by SILENT HOP 0, then by 1", allBoxes(of("0.1", "2.3")), "2 0, 2 1, 3 0, 3 1");
        same("NAMES ahead of NEW ones", allBoxes(of("5.2", "45.0")), "4 10, 10 10");
        same("at each SILENT HOP", allBoxes(of("5.3", "4..1")),
                "1 10 3, 1 10 5, 4 3 10, 4 5 10, 10 3 10, 10 5 10, 10 10 3, 10 10 5");
        same("with four SILENT HOPS", allBoxes(of("0..1", "2..3")),
                "2 10 10 1, 3 10 1 10, 10 2 10 0, 10 3 0 10");
        same("NEW 1 ahead of NEW 2", allBoxes(of("5..12", "0.2", "0.1")), "10 11 12 11, 10 11 12 12");
    }

    private static void mostNets() {
        NetShape x = of("4.3", "1.0", "2.5");
        due("NETS", x.nets(), 48);
        same("the first", boxes(x, 0), "0 2 0");
        same("the last", boxes(x, 47), "5 5 4");
        due("none behind the last", x.boxOf(48, 0), BAD);
        due("none ahead of the first", x.boxOf(-1, 0), BAD);
        due("far in the last", x.far(47, 4, 3), 2);
        due("far in none behind it", x.far(48, 4, 3), BAD);
        due("far in none ahead of the first", x.far(-1, 4, 3), BAD);
        int before = -1;
        for (int k = 0; k < 48; k++) {
            int here = x.boxOf(k, 0) * 10000 + x.boxOf(k, 1) * 100 + x.boxOf(k, 2);
            CHECK.holds("NET " + k + " stands behind the one before", here > before);
            before = here;
        }
        due("left at worst", x.worst(), 20);
        due("no TRACES: one NET of nothing", new NetShape().nets(), 1);
    }

    private static void sureOpenNever() {
        NetShape x = of("2.4", "154", "0.5");
        due("NETS", x.nets(), 4);
        due("a LINE in none of four", x.sure(0, 5), 0);
        due("a LINE in one of four", x.sure(0, 1), 1);
        due("a LINE in three of four", x.sure(2, 5), 1);
        due("a LINE in all of four", x.sure(1, 5), 2);
        x = of("012");
        due("SURE before", x.sure(0, 1), 2);
        due("NEVER before", x.sure(0, 2), 0);
        x.forget(0);
        add(x, "021");
        due("NEVER behind", x.sure(0, 1), 0);
        due("SURE behind", x.sure(0, 2), 2);
    }

    private static void oneBoxIsNeverJoinedWithItself() {
        NetShape x = of("01", "23");
        for (int name = 0; name < 4; name++) {
            due("NAME " + name + " with itself", x.sure(name, name), 0);
        }
        x.tell(1, 2, true);
        due("two NAMES of one box", x.sure(1, 2), 0);
        due("other way round", x.sure(2, 1), 0);
        due("a NAME and another one's box", x.sure(0, 2), 2);
        due("other way round", x.sure(2, 0), 2);
    }

    private static void farFromZeroToNine() {
        NetShape x = of("31...2", "5.4031");
        due("a NAME and itself", x.far(0, 2, 2), 0);
        due("side by side", x.far(0, 3, 1), 1);
        due("along all ten BOXES", x.far(0, 2, 5), 9);
        due("other way round", x.far(0, 5, 2), 9);
        due("along eight BOXES", x.far(0, 2, 4), 7);
        due("BOXES", x.shape(0), 10);
        due("LINES", x.shape(1), 9);
        x = of("312", "45");
        due("no way", x.far(0, 4, 2), NONE);
        due("other way round", x.far(0, 2, 4), NONE);
        x.tell(5, 1, true);
        due("a way by one box", x.far(0, 4, 3), 2);
        due("two NAMES of one box", x.far(0, 5, 1), 0);
        due("no TRACES: a NAME and itself", new NetShape().far(0, 0, 0), BAD);
        due("in no TRACE: a NAME and itself", x.far(0, 0, 0), BAD);
    }

    private static void falseRowsFromNoneToAll() {
        due("no TRACES", new NetShape().falses(), 0);
        due("one TRACE that FITS", of("01").falses(), 0);
        NetShape x = of("01");
        x.tell(0, 1, true);
        due("one TRACE that does not", x.falses(), 1);
        for (int name = 0; name < 6; name++) {
            x = of("01", "12", "23", "34", "45", "50");
            due("six TRACES that FIT", x.falses(), 0);
            x.tell(name, (name + 1) % 6, true);
            due("TRACE " + name + " alone", x.falses(), 1 << name);
        }
        for (int name = 1; name < 6; name++) {
            x.tell(0, name, true);
        }
        due("all six TRACES", x.falses(), 63);
        x.forget(0);
        due("all five TRACES", x.falses(), 31);
        due("TRACES stay", x.count(0), 5);
        x.untell();
        due("none again", x.falses(), 0);
    }

    private static void falseRowsAreTheFewestThenTheLeast() {
        due("one of two: the first", of("012", "02").falses(), 1);
        due("other way round: the first", of("02", "012").falses(), 1);
        due("one with a greater number, not two", of("01", "12", "03142").falses(), 4);
        due("three of six, the least number", of("01", "01", "01", "0.1", "0.1", "0.1").falses(), 7);
        due("two of six, not four", of("0.1", "0.1", "01", "01", "0.1", "0.1").falses(), 12);
        due("of two pairs the first of each", of("34", "02", "012", "354").falses(), 3);
        due("a pair across", of("012", "345", "02", "35").falses(), 3);
        due("a TRACE with SILENT HOPS ahead of others", of("0..2", "02", "3.4", "3.4").falses(), 1);
        NetShape x = of("45", "0.1", "012");
        x.tell(0, 1, true);
        due("two that each have a box twice", x.falses(), 6);
    }

    private static void nextIsTheLeastOfSeveral() {
        due("the least pair", of("01").next(), 1);
        due("the greatest pair", of("54").next(), 45);
        due("the least a", of("54", "32").next(), 23);
        due("then the least b", of("542", "03").next(), 2);
        NetShape x = of("3..1", "5..4");
        due("a pair behind others of a greater heap", x.next(), 14);
        due("two of four NETS left", x.worst(), 2);
        x = of("2.4", "315");
        due("a pair with the least greatest heap", x.next(), 23);
        due("each NET in a heap of its own", x.worst(), 1);
        x = of("5.0", "51", "54", "23");
        due("a heap of NETS that tell NONE is no other pair's", x.next(), 1);
        due("one of two NETS left", x.worst(), 1);
        x = of("31...2", "5.4031");
        due("one NET, in which two NAMES are nine LINES apart", x.next(), 1);
        due("it is left", x.worst(), 1);
        due("without TRACES", new NetShape().next(), NOT);
        due("worst without TRACES", new NetShape().worst(), NOT);
        x = of("01");
        x.tell(0, 1, true);
        due("where none FITS", x.next(), NOT);
        due("worst where none FITS", x.worst(), NOT);
    }
}
