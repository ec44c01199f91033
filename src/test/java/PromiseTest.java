/** The document's promises one by one: ordinary calls, the edges that it names, and wrong ones. */
public final class PromiseTest {
    private static final int NONE = -1, BAD = -2, TWICE = -3, WRONG = -4, FULL = -5, NOT = -6;
    private static final int[] OUT_OF_BOUNDS = {Integer.MIN_VALUE, -100, -2, 6, 7, 100, Integer.MAX_VALUE};

    private static final Check CHECK = new Check("PromiseTest");

    public static void main(String[] args) {
        constants();
        newObject();
        newObjectIsToldNothing();
        hop();
        hopSilent();
        drop();
        dropOfEachLength();
        trace();
        forget();
        forgetEachOfSix();
        tell();
        tellByOthers();
        untell();
        at();
        nets();
        netsInOneBox();
        shape();
        boxOf();
        order();
        far();
        sure();
        falses();
        falsesOfRowsAlone();
        next();
        nextOfOneBox();
        worst();
        count();
        countFromEmptyToFull();
        refusedChangesNothing();
        CHECK.close();
    }

    private static void due(String what, int got, int want) {
        CHECK.due(what, got, want);
    }

    /** A new object with these TRACES. */
    private static NetShape of(int[]... rows) {
        NetShape x = new NetShape();
        for (int[] row : rows) {
            add(x, row);
        }
        return x;
    }

    private static void add(NetShape x, int... hops) {
        for (int i = 0; i < hops.length; i++) {
            due("hop of a row", x.hop(hops[i]), i + 1);
        }
        int before = x.count(0);
        due("trace of a row", x.trace(), before);
    }

    private static int[] row(int... hops) {
        return hops;
    }

    /** These are the boxes of all SILENT HOPS in a LEAST NET. */
    private static void dueBoxes(NetShape x, int k, int... boxes) {
        for (int silent = 0; silent < boxes.length; silent++) {
            due("boxOf(" + k + ", " + silent + ")", x.boxOf(k, silent), boxes[silent]);
        }
        due("boxOf behind the last SILENT HOP", x.boxOf(k, boxes.length), BAD);
    }

    private static void constants() {
        due("NONE", NetShape.NONE, NONE);
        due("BAD", NetShape.BAD, BAD);
        due("TWICE", NetShape.TWICE, TWICE);
        due("WRONG", NetShape.WRONG, WRONG);
        due("FULL", NetShape.FULL, FULL);
        due("NOT", NetShape.NOT, NOT);
    }

    private static void newObject() {
        NetShape x = new NetShape();
        for (int what = 0; what < 5; what++) {
            due("1: count(" + what + ")", x.count(what), 0);
        }
        due("1: drop", x.drop(), 0);
        due("1: untell", x.untell(), 0);
        due("1: at", x.at(0, 0), BAD);
        due("1: trace", x.trace(), NOT);
        due("1: nothing told", x.tell(0, 1, true), 1);
        due("1: objects share nothing", new NetShape().untell(), 0);
    }

    private static void newObjectIsToldNothing() {
        for (int a = 0; a < 6; a++) {
            for (int b = 0; b < 6; b++) {
                String pair = "1: " + a + " and " + b;
                due(pair + " are not ONE BOX", new NetShape().tell(a, b, true), a == b ? BAD : 1);
                due(pair + " are not APART", new NetShape().tell(a, b, false), a == b ? BAD : 1);
            }
        }
        due("1: no HOP is TWICE", new NetShape().hop(0), 1);
        due("1: nets", new NetShape().nets(), 1);
        due("1: falses", new NetShape().falses(), 0);
        due("1: forget", new NetShape().forget(0), BAD);
    }

    private static void hop() {
        NetShape x = new NetShape();
        for (int name : OUT_OF_BOUNDS) {
            due("2: hop(" + name + ")", x.hop(name), BAD);
        }
        for (int name = 5; name >= 0; name--) {
            due("2: hop(" + name + ")", x.hop(name), 6 - name);
            due("2: again", x.hop(name), TWICE);
        }
        due("2: BAD ahead of FULL", x.hop(6), BAD);
        due("2: TWICE ahead of FULL", x.hop(3), TWICE);
        due("2: a seventh", x.hop(-1), FULL);
        due("2: how many stay", x.count(3), 6);
        due("2: they become a TRACE", x.trace(), 0);
        due("2: a NAME of another TRACE", x.hop(5), 1);
        due("2: NAMES that are one box may stand in a row", x.tell(4, 5, true), 1);
        due("2: here", x.hop(4), 2);
    }

    private static void hopSilent() {
        NetShape x = new NetShape();
        for (int i = 1; i <= 4; i++) {
            due("2: SILENT", x.hop(-1), i);
        }
        due("2: a fifth SILENT one", x.hop(-1), FULL);
        due("2: a NAME still", x.hop(0), 5);
        due("2: dropped", x.drop(), 5);
        add(x, 0, -1, -1, 1);
        add(x, 2, -1, 3);
        due("2: first", x.hop(4), 1);
        due("2: the fourth of all", x.hop(-1), 2);
        due("2: the fifth of all", x.hop(-1), FULL);
        due("2: forgotten ones", x.forget(0), 1);
        due("2: do not count", x.hop(-1), 3);
        due("2: nor more", x.hop(-1), 4);
        due("2: but these", x.hop(-1), FULL);
    }

    private static void drop() {
        NetShape x = new NetShape();
        due("3: none", x.drop(), 0);
        x.hop(3);
        x.hop(-1);
        x.hop(2);
        due("3: three", x.drop(), 3);
        due("3: none again", x.drop(), 0);
        due("3: none at hand", x.count(3), 0);
        due("3: a dropped NAME is not twice", x.hop(3), 1);
        x.drop();
        add(x, 0, 1);
        due("3: TRACES stay", x.drop() * 100 + x.count(0), 1);
    }

    private static void dropOfEachLength() {
        NetShape x = new NetShape();
        for (int length = 0; length <= 6; length++) {
            for (int i = 0; i < length; i++) {
                x.hop(i);
            }
            due("3: a row of " + length, x.drop(), length);
            due("3: none at hand behind it", x.count(3), 0);
            due("3: nothing to trace", x.trace(), NOT);
        }
    }

    private static void trace() {
        NetShape x = new NetShape();
        due("4: no HOPS", x.trace(), NOT);
        x.hop(4);
        due("4: one HOP", x.trace(), NOT);
        due("4: it stays", x.hop(-1), 2);
        due("4: the last is SILENT", x.trace(), NOT);
        due("4: it stays", x.hop(2), 3);
        due("4: a TRACE", x.trace(), 0);
        due("4: none at hand then", x.count(3), 0);
        due("4: its HOPS", x.at(0, 0) * 100 + x.at(0, 2), 402);
        x.hop(-1);
        x.hop(0);
        x.hop(1);
        due("4: the first is SILENT", x.trace(), NOT);
        x.drop();
        for (int t = 1; t < 6; t++) {
            x.hop(0);
            x.hop(t);
            due("4: number " + t, x.trace(), t);
        }
        due("4: FULL ahead of NOT", x.trace(), FULL);
        x.hop(2);
        x.hop(3);
        due("4: FULL", x.trace(), FULL);
        due("4: the row stays at hand", x.count(3), 2);
        x.forget(0);
        due("4: room again", x.trace(), 5);
        due("4: at the end", x.at(5, 0) * 10 + x.at(5, 1), 23);
    }

    private static void forget() {
        NetShape x = of(row(0, 1), row(2, -1, 3), row(4, -1, -1, 5), row(1, 2));
        due("5: before all", x.forget(-1), BAD);
        due("5: behind all", x.forget(4), BAD);
        due("5: far off", x.forget(Integer.MIN_VALUE) + x.forget(Integer.MAX_VALUE), 2 * BAD);
        x.hop(5);
        due("5: three left", x.forget(1), 3);
        due("5: the row at hand stays", x.count(3), 1);
        due("5: the first stays", x.at(0, 1), 1);
        due("5: the next has a number less", x.at(1, 0) * 100 + x.at(1, 3), 405);
        due("5: and the last", x.at(2, 0) * 10 + x.at(2, 1), 12);
        due("5: none behind it", x.at(3, 0), BAD);
        due("5: its length too", x.at(1, 4), BAD);
        due("5: SILENT HOPS left", x.count(1), 2);
        due("5: NAME 3 is in none", x.sure(2, 3), BAD);
        due("5: the last", x.forget(2), 2);
        due("5: again", x.forget(0), 1);
        due("5: none left", x.forget(0), 0);
        due("5: no more", x.forget(0), BAD);
    }

    private static void forgetEachOfSix() {
        for (int gone = 0; gone < 6; gone++) {
            NetShape x = of(row(0, 1), row(1, -1, 2), row(2, -1, -1, 3), row(3, 4, 5, 0, 1), row(4, 5), row(5, -1, 0));
            due("5: no TRACE 6", x.forget(6), BAD);
            due("5: no TRACE -1", x.forget(-1), BAD);
            due("5: five left", x.forget(gone), 5);
            for (int t = 0; t < 5; t++) {
                int before = t < gone ? t : t + 1;
                due("5: TRACE " + t + " was " + before, x.at(t, 0), before);
                int length = new int[] {2, 3, 4, 5, 2, 3}[before];
                due("5: its last HOP", x.at(t, length - 1), (before + new int[] {1, 1, 1, 4, 1, 1}[before]) % 6);
                due("5: none behind that", x.at(t, length), BAD);
            }
            due("5: no TRACE 5 then", x.at(5, 0) + x.forget(5), 2 * BAD);
            due("5: SILENT HOPS left", x.count(1), 4 - new int[] {0, 1, 2, 0, 0, 1}[gone]);
        }
    }

    private static void tell() {
        NetShape x = new NetShape();
        for (int name : OUT_OF_BOUNDS) {
            due("6: tell(" + name + ", 0)", x.tell(name, 0, true), BAD);
            due("6: tell(0, " + name + ")", x.tell(0, name, false), BAD);
        }
        due("6: NONE is no NAME", x.tell(-1, 0, false), BAD);
        due("6: with itself", x.tell(3, 3, true) + x.tell(3, 3, false), 2 * BAD);
        due("6: ONE BOX", x.tell(0, 5, true), 1);
        due("6: again", x.tell(0, 5, true), TWICE);
        due("6: the other way round", x.tell(5, 0, true), TWICE);
        due("6: APART then", x.tell(5, 0, false), WRONG);
        due("6: APART", x.tell(1, 2, false), 1);
        due("6: again", x.tell(1, 2, false), TWICE);
        due("6: the other way round", x.tell(2, 1, false), TWICE);
        due("6: ONE BOX then", x.tell(2, 1, true), WRONG);
        due("6: told in all", x.untell(), 2);
    }

    private static void tellByOthers() {
        NetShape x = new NetShape();
        due("6: 0 and 1", x.tell(0, 1, true), 1);
        due("6: 2 and 3", x.tell(2, 3, true), 1);
        due("6: 1 and 2", x.tell(1, 2, true), 1);
        due("6: ONE BOX by others", x.tell(3, 0, true), TWICE);
        due("6: APART, but ONE BOX by others", x.tell(0, 3, false), WRONG);
        due("6: 3 and 4 APART", x.tell(3, 4, false), 1);
        due("6: APART by others is not told", x.tell(0, 4, false), 1);
        due("6: now it is", x.tell(4, 0, false), TWICE);
        due("6: ONE BOX would make two that are APART one", x.tell(4, 2, true), WRONG);
        due("6: 4 and 5", x.tell(4, 5, true), 1);
        due("6: likewise by the other's box", x.tell(5, 1, true), WRONG);
        due("6: APART by both", x.tell(5, 1, false), 1);
        due("6: told in all", x.untell(), 7);
    }

    private static void untell() {
        NetShape x = of(row(0, 1));
        x.tell(0, 1, true);
        x.tell(1, 0, true);
        x.tell(0, 1, false);
        x.tell(2, 3, false);
        x.tell(0, 9, false);
        due("7: none FITS before", x.nets(), 0);
        due("7: those refused do not count", x.untell(), 2);
        due("7: some FITS behind it", x.nets(), 1);
        due("7: none now", x.untell(), 0);
        due("7: APART is gone", x.tell(2, 3, true), 1);
        due("7: ONE BOX is gone", x.tell(0, 1, false), 1);
        due("7: TRACES stay", x.count(0), 1);
        due("7: counted anew", x.untell(), 2);
    }

    private static void at() {
        NetShape x = of(row(5, -1, 0), row(1, 2));
        due("8: first", x.at(0, 0), 5);
        due("8: SILENT", x.at(0, 1), -1);
        due("8: last", x.at(0, 2), 0);
        due("8: of the next", x.at(1, 1), 2);
        due("8: behind its end", x.at(1, 2), BAD);
        due("8: behind the end", x.at(0, 3), BAD);
        due("8: ahead of it", x.at(0, -1), BAD);
        due("8: no such TRACE", x.at(2, 0) + x.at(-1, 0), 2 * BAD);
        due("8: far off", x.at(Integer.MAX_VALUE, Integer.MAX_VALUE), BAD);
        due("8: far off", x.at(Integer.MIN_VALUE, Integer.MIN_VALUE), BAD);
        x.hop(3);
        x.hop(4);
        due("8: the row at hand is no TRACE", x.at(2, 0) + x.at(6, 0), 2 * BAD);
    }

    private static void nets() {
        due("9: without TRACES", new NetShape().nets(), 1);
        due("9: of NAMES alone", of(row(0, 1, 2)).nets(), 1);
        due("9: no way is shorter than a TRACE", of(row(0, 1, 2), row(2, 0)).nets(), 0);
        due("9: nor by other TRACES", of(row(0, 1, 2, 3), row(0, 4), row(4, 3)).nets(), 0);
        due("9: as long is fine", of(row(0, 1, 2), row(0, 4), row(4, 2)).nets(), 1);
        due("9: a box of any TRACE", of(row(0, -1, 1), row(2, -1, 3)).nets(), 4);
        NetShape x = of(row(0, 1), row(0, -1, 2), row(3, 4));
        due("9: fewest LINES", x.nets(), 1);
        due("9: its LINES", x.shape(1), 3);
        x = of(row(2, -1, 3), row(0, 4), row(1, -1, 2), row(5, -1, 1, 4));
        due("9: fewest BOXES ahead of fewest LINES", x.nets(), 3);
        due("9: BOXES", x.shape(0), 6);
        due("9: LINES", x.shape(1), 7);
        due("9: NEW boxes in order are one NET", of(row(0, -1, -1, -1, -1, 5)).nets(), 1);
        x = of(row(0, -1, -1, 1), row(2, -1, -1, 3));
        int before = x.nets();
        x.hop(4);
        x.hop(5);
        due("9: the row at hand does not matter", x.nets(), before);
        due("9: until it is a TRACE", x.trace(), 2);
        due("9: then it does", x.shape(0), 6);
    }

    private static void netsInOneBox() {
        NetShape x = of(row(0, 1, 2));
        due("9: two of a row in one box", x.tell(0, 2, true), 1);
        due("9: do not FIT", x.nets(), 0);
        x.untell();
        x.tell(0, 3, true);
        x.tell(3, 1, true);
        due("9: nor by others", x.nets(), 0);
        x = of(row(0, 1, 2), row(3, 4));
        x.tell(0, 3, true);
        due("9: one box short-cuts nothing yet", x.nets(), 1);
        x.tell(4, 2, true);
        due("9: now it does", x.nets(), 0);
        x = of(row(0, 1), row(2, 3));
        x.tell(0, 1, false);
        x.tell(0, 2, false);
        due("9: APART alone changes no NET", x.nets() * 100 + x.shape(0), 104);
    }

    private static void shape() {
        NetShape x = new NetShape();
        due("10: of nothing", x.shape(0) + x.shape(1), 0);
        add(x, 0, 1, 2);
        add(x, 2, 1);
        due("10: BOXES", x.shape(0), 3);
        due("10: two boxes have one LINE", x.shape(1), 2);
        due("10: no such", x.shape(2) + x.shape(-1), 2 * BAD);
        add(x, 3, -1, 4);
        due("10: a box of a NAME ahead of a NEW one", x.shape(0), 5);
        due("10: LINES", x.shape(1), 4);
        x.tell(0, 3, true);
        due("10: one box of two NAMES", x.shape(0), 4);
        due("10: LINES then", x.shape(1), 3);
        x.tell(0, 2, true);
        due("10: none FITS", x.shape(0), NOT);
        due("10: none FITS", x.shape(1), NOT);
        due("10: BAD ahead of NOT", x.shape(2), BAD);
        due("10: BAD ahead of NOT", x.shape(Integer.MIN_VALUE), BAD);
        due("10: NEW boxes count", of(row(0, -1, -1, 1)).shape(0), 4);
    }

    private static void boxOf() {
        NetShape x = of(row(1, -1, 2), row(1, 3));
        dueBoxes(x, 0, 3);
        due("11: no such NET", x.boxOf(1, 0) + x.boxOf(-1, 0), 2 * BAD);
        due("11: no such SILENT HOP", x.boxOf(0, -1) + x.boxOf(0, 4), 2 * BAD);
        due("11: far off", x.boxOf(Integer.MAX_VALUE, Integer.MIN_VALUE), BAD);
        x.tell(3, 4, true);
        due("11: the least of its box", x.boxOf(0, 0), 3);
        x.tell(4, 0, true);
        due("11: though it is in no TRACE", x.boxOf(0, 0), 0);
        x.tell(1, 2, true);
        due("11: NOT", x.boxOf(0, 0), NOT);
        due("11: NOT ahead of BAD", x.boxOf(-5, 99), NOT);
        dueBoxes(of(row(0, 1, -1, 2)), 0, 10);
        dueBoxes(of(row(0, -1, -1, -1, -1, 5)), 0, 10, 11, 12, 13);
        dueBoxes(of(row(0, -1, 1), row(1, -1, 2), row(2, -1, 0)), 0, 10, 10, 10);
        due("11: no SILENT HOP", of(row(0, 1)).boxOf(0, 0), BAD);
        due("11: no TRACE", new NetShape().boxOf(0, 0), BAD);
        x = of(row(0, 1), row(2, -1, 3), row(0, -1, -1, 1));
        due("11: none FITS", x.boxOf(0, 0), NOT);
        x.forget(0);
        x.forget(1);
        due("11: numbered anew", x.boxOf(0, 0) * 100 + x.boxOf(0, 1), 1000 + BAD);
    }

    private static void order() {
        NetShape x = of(row(0, -1, 1), row(2, -1, 3));
        dueBoxes(x, 0, 2, 0);
        dueBoxes(x, 1, 2, 1);
        dueBoxes(x, 2, 3, 0);
        dueBoxes(x, 3, 3, 1);
        x = of(row(5, -1, 2), row(4, 5, -1, 0));
        due("11: boxes of NAMES ahead of NEW ones", x.nets(), 2);
        dueBoxes(x, 0, 4, 10);
        dueBoxes(x, 1, 10, 10);
        x = of(row(5, -1, 3), row(4, -1, -1, 1));
        due("11: with eight", x.nets(), 8);
        dueBoxes(x, 0, 1, 10, 3);
        dueBoxes(x, 1, 1, 10, 5);
        dueBoxes(x, 2, 4, 3, 10);
        dueBoxes(x, 3, 4, 5, 10);
        dueBoxes(x, 4, 10, 3, 10);
        dueBoxes(x, 5, 10, 5, 10);
        dueBoxes(x, 6, 10, 10, 3);
        dueBoxes(x, 7, 10, 10, 5);
        x.tell(4, 0, true);
        due("11: in ORDER by the least of a box", x.boxOf(0, 0) * 100 + x.boxOf(2, 0), 1);
        x = of(row(1, -1, 4), row(1, -1, -1, 5), row(2, 4, -1, 5));
        dueBoxes(x, 0, 2, 10, 11, 11);
        dueBoxes(x, 1, 10, 10, 11, 11);
    }

    private static void far() {
        NetShape x = of(row(0, 1, 2), row(3, 4));
        due("12: with itself", x.far(0, 1, 1), 0);
        due("12: a LINE", x.far(0, 1, 2), 1);
        due("12: two", x.far(0, 2, 0), 2);
        due("12: no way", x.far(0, 0, 3), NONE);
        due("12: a NAME in no TRACE", x.far(0, 0, 5) + x.far(0, 5, 0), 2 * BAD);
        for (int name : OUT_OF_BOUNDS) {
            due("12: no NAME", x.far(0, name, 0) + x.far(0, 0, name), 2 * BAD);
        }
        due("12: no NAME", x.far(0, -1, 0), BAD);
        due("12: no such NET", x.far(1, 0, 1) + x.far(-1, 0, 1), 2 * BAD);
        x.tell(2, 3, true);
        due("12: one box", x.far(0, 2, 3), 0);
        due("12: by it", x.far(0, 0, 4), 3);
        x.tell(2, 5, true);
        due("12: of that box, but in no TRACE", x.far(0, 5, 0), BAD);
        x.tell(0, 1, true);
        due("12: NOT ahead of BAD", x.far(9, 9, 9), NOT);
        x = of(row(0, -1, 1), row(2, -1, 3));
        due("12: NET 0", x.far(0, 0, 3), 1);
        due("12: NET 1", x.far(1, 0, 3), 3);
        due("12: NET 2", x.far(2, 0, 3), 1);
        due("12: along NEW boxes", of(row(0, -1, -1, -1, -1, 5)).far(0, 5, 0), 5);
        due("12: no TRACE", new NetShape().far(0, 0, 0), BAD);
    }

    private static void sure() {
        NetShape x = of(row(0, -1, 1), row(2, -1, 3));
        due("13: OPEN", x.sure(0, 2), 1);
        due("13: the other way round", x.sure(2, 0), 1);
        due("13: NEVER", x.sure(0, 1), 0);
        add(x, 0, 2);
        due("13: SURE", x.sure(0, 2), 2);
        due("13: the other way round", x.sure(2, 0), 2);
        due("13: with itself", x.sure(0, 0), 0);
        due("13: a NAME in no TRACE", x.sure(0, 4) + x.sure(4, 0) + x.sure(4, 4), 3 * BAD);
        for (int name : OUT_OF_BOUNDS) {
            due("13: no NAME", x.sure(name, 0) + x.sure(0, name), 2 * BAD);
        }
        x = of(row(0, 1), row(2, 3));
        x.tell(1, 2, true);
        due("13: ONE BOX", x.sure(1, 2), 0);
        due("13: by its box", x.sure(0, 2), 2);
        due("13: and", x.sure(3, 1), 2);
        x.tell(1, 4, true);
        due("13: of that box, but in no TRACE", x.sure(0, 4), BAD);
        x.tell(2, 3, true);
        due("13: NOT", x.sure(0, 1), NOT);
        due("13: NOT ahead of BAD", x.sure(-7, 9), NOT);
        due("13: no TRACE", new NetShape().sure(0, 1), BAD);
    }

    private static void falses() {
        due("14: nothing", new NetShape().falses(), 0);
        due("14: some FITS", of(row(0, 1, 2), row(1, 2)).falses(), 0);
        due("14: the least number", of(row(0, 1, 2), row(0, 2)).falses(), 1);
        NetShape x = of(row(0, 1), row(1, 2), row(0, 3, 1, 4, 2));
        due("14: fewest TRACES ahead of the least number", x.falses(), 4);
        x = of(row(3, 4), row(0, 2), row(0, 1, 2), row(3, 5, 4));
        due("14: two of them", x.falses(), 3);
        x.forget(0);
        due("14: one of them", x.falses(), 1);
        due("14: TRACES stay", x.count(0), 3);
        due("14: again", x.falses(), 1);
        x = of(row(0, 1), row(0, -1, 1), row(0, -1, -1, 1), row(0, 2, 1));
        due("14: those of unlike lengths", x.falses(), 5);
    }

    private static void falsesOfRowsAlone() {
        NetShape x = of(row(0, 1), row(1, 0), row(0, 2, 1));
        x.tell(0, 1, true);
        due("14: all TRACES", x.falses(), 7);
        x = of(row(0, 1), row(1, 2), row(2, 3), row(3, 4), row(4, 5), row(5, 0));
        due("14: a ring", x.falses(), 0);
        for (int name = 1; name < 6; name++) {
            x.tell(0, name, true);
        }
        due("14: six TRACES", x.falses(), 63);
        x.untell();
        x.tell(0, 5, true);
        due("14: the last TRACE", x.falses(), 32);
        x = of(row(0, -1, 2), row(0, 2), row(3, -1, 4));
        due("14: with SILENT HOPS", x.falses(), 1);
        due("14: asked between", x.nets(), 0);
        x.forget(0);
        due("14: none then", x.falses(), 0);
        due("14: one NET of these then", x.nets() * 100 + x.boxOf(1, 0), 202);
    }

    private static void next() {
        due("15: no TRACES", new NetShape().next(), NOT);
        due("15: none FITS", of(row(0, 1, 2), row(0, 2)).next(), NOT);
        due("15: one NET", of(row(2, 5)).next(), 25);
        due("15: the least a, then b", of(row(4, 3), row(5, 1)).next(), 13);
        NetShape x = of(row(0, -1, 1), row(2, -1, 3));
        due("15: all alike", x.next(), 2);
        add(x, 0, 2);
        due("15: the least greatest heap", x.next(), 3);
        due("15: a is not the least NAME", of(row(2, -1, 4), row(3, 1, 5)).next(), 23);
        due("15: eight NETS", of(row(5, -1, 3), row(4, -1, -1, 1)).next(), 13);
        due("15: of several the least", of(row(3, -1, -1, 1), row(5, -1, -1, 4)).next(), 14);
    }

    private static void nextOfOneBox() {
        NetShape x = of(row(2, 3), row(4, 5));
        x.tell(2, 4, true);
        due("15: NAMES, not boxes", x.next(), 23);
        x.tell(2, 3, false);
        x.untell();
        x = of(row(0, 2), row(1, 3));
        x.tell(0, 1, true);
        due("15: two NAMES of one box are a pair", x.next(), 1);
        due("16: which tells nothing", x.worst(), 1);
    }

    private static void worst() {
        due("16: no TRACES", new NetShape().worst(), NOT);
        due("16: none FITS", of(row(0, 1, 2), row(0, 2)).worst(), NOT);
        due("16: one NET", of(row(2, 5)).worst(), 1);
        NetShape x = of(row(0, -1, 1), row(2, -1, 3));
        due("16: three of four", x.worst(), 3);
        add(x, 0, 2);
        due("16: two of three", x.worst(), 2);
        due("16: each in a heap of its own", of(row(2, -1, 4), row(3, 1, 5)).worst(), 1);
        due("16: three of eight", of(row(5, -1, 3), row(4, -1, -1, 1)).worst(), 3);
        due("16: two of four", of(row(3, -1, -1, 1), row(5, -1, -1, 4)).worst(), 2);
    }

    private static void count() {
        NetShape x = of(row(0, -1, 3), row(3, -1, -1, 4));
        x.hop(5);
        x.hop(-1);
        x.hop(1);
        due("17: TRACES", x.count(0), 2);
        due("17: SILENT HOPS of them", x.count(1), 3);
        due("17: NAMES in them", x.count(2), 3);
        due("17: HOPS at hand", x.count(3), 3);
        due("17: boxes of NAMES in them", x.count(4), 3);
        x.tell(0, 5, true);
        due("17: a NAME in none adds nothing", x.count(4), 3);
        x.tell(4, 5, true);
        due("17: one box by others", x.count(4), 2);
        due("17: NAMES all the same", x.count(2), 3);
        x.tell(4, 3, true);
        due("17: where none FITS too", x.count(4) * 100 + x.nets(), 100);
        due("17: no such", x.count(-1) + x.count(5), 2 * BAD);
        due("17: no such", x.count(Integer.MAX_VALUE) + x.count(Integer.MIN_VALUE), 2 * BAD);
    }

    private static void countFromEmptyToFull() {
        NetShape x = of(row(0, -1, -1, -1, -1, 1), row(2, 3), row(4, 5), row(1, 2), row(3, 4));
        int[] five = {5, 4, 6, 0, 6};
        for (int what = 0; what < 5; what++) {
            due("17: count(" + what + ")", x.count(what), five[what]);
        }
        add(x, 0, 1);
        for (int name = 0; name < 6; name++) {
            x.hop(name);
        }
        int[] full = {6, 4, 6, 6, 6};
        for (int what = 0; what < 5; what++) {
            due("17: at most, count(" + what + ")", x.count(what), full[what]);
        }
        due("17: the first that is no count", x.count(5), BAD);
        due("17: the last that is no count", x.count(-1), BAD);
        for (int name = 1; name < 6; name++) {
            x.tell(0, name, true);
            due("17: boxes of NAMES", x.count(4), 6 - name);
            due("17: NAMES", x.count(2), 6);
        }
        for (int left = 5; left >= 0; left--) {
            x.forget(0);
        }
        x.drop();
        for (int what = 0; what < 5; what++) {
            due("17: none, count(" + what + ")", x.count(what), 0);
        }
    }

    private static void refusedChangesNothing() {
        NetShape x = of(row(0, -1, 1), row(2, -1, 3));
        x.tell(0, 1, false);
        x.hop(4);
        x.hop(6);
        x.hop(4);
        x.trace();
        x.forget(2);
        x.tell(0, 1, true);
        x.tell(0, 1, false);
        x.tell(2, 2, true);
        due("refused: TRACES", x.count(0), 2);
        due("refused: HOPS at hand", x.count(3), 1);
        due("refused: NETS", x.nets(), 4);
        due("refused: boxes", x.count(4), 4);
        due("refused: told", x.untell(), 1);
    }
}
