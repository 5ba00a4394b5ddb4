/** Promises 1 to 7: a new object, feed, north, fault, told, cell, person. */
public final class NorthTest {
    public static void main(String[] args) {
        newObject();
        feed();
        north();
        northAnew();
        northsInTurn();
        northWithFault();
        faults();
        faultsBehindLongerTexts();
        told();
        toldGroups();
        toldFarOut();
        toldBare();
        cell();
        person();
        Due.end();
    }

    private static void newObject() {
        WingCensus x = new WingCensus();
        for (int k = 0; k <= 17; k++) Due.due("new: told(" + k + ")", x.told(k), k == 11 || k == 13 ? Due.NONE : 0);
        Due.due("new: fault()", x.fault(), Due.NONE);
        Due.due("new: cell(0, 0)", x.cell(0, 0), Due.UNKNOWN);
        Due.due("new: person(0, 0)", x.person(0, 0), Due.UNKNOWN);
        Due.due("new: lie(0, 0)", x.lie(0, 0), Due.UNKNOWN);
        Due.due("new: rise(0)", x.rise(0), Due.UNKNOWN);
        Due.due("new: night(1)", x.night(1), Due.NOT);
        Due.due("new: night(0)", x.night(0), Due.OUTSIDE);
        Due.due("new: thaw()", x.thaw(), Due.NOT);
        Due.due("new: snow()", x.snow(), Due.NOT);
        Due.due("new: hare(0)", x.hare(0), Due.UNKNOWN);
        Due.due("new: pin(0)", x.pin(0), Due.OUTSIDE);
        Due.due("new: wind(1)", x.wind(1), Due.NOT);
        Due.due("new: wind(5)", x.wind(5), Due.OUTSIDE);
        Due.due("new: drift(1)", x.drift(1), Due.NOT);
        Due.due("new: undo(1)", x.undo(1), Due.NOT);
        Due.due("new: left(0, 0)", x.left(0, 0), Due.UNKNOWN);
        Due.due("new: willCount(20)", x.willCount(20), 0);
        Due.due("new: wrongFirst()", x.wrongFirst(), Due.NONE);
        Due.due("new: canLie(0, 0)", x.canLie(0, 0), Due.UNKNOWN);
        Due.due("new: round(0, 0, 0)", x.round(0, 0, 0), Due.UNKNOWN);
        Due.due("new: touch(-1)", x.touch(-1), 0);
        Due.due("new: touch(0)", x.touch(0), Due.NONE);
        Due.due("new: find(0, true)", x.find(0, true), Due.UNKNOWN);
        Due.due("new: fits(0)", x.fits(0), 0);
        Due.due("new: fits(1)", x.fits(1), Due.NONE);
        Due.due("new: fits(2)", x.fits(2), 0);
        Due.due("new: look()", x.look(), Due.NONE);
        Due.due("new: judge()", x.judge(), Due.NONE);
        Due.due("new: tear()", x.tear(), 0);
        Due.due("new: seed(0)", x.seed(0), 0);
        Due.due("new: goBack(0)", x.goBack(0), Due.NOT);
        Due.due("new: goBack(1)", x.goBack(1), Due.NOT);
    }

    private static void feed() {
        WingCensus x = new WingCensus();
        Due.due("feed(-1)", x.feed(-1), Due.OUTSIDE);
        Due.due("feed(256)", x.feed(256), Due.OUTSIDE);
        Due.due("feed(0)", x.feed(0), 1);
        Due.due("feed(255)", x.feed(255), 2);
        Due.due("told(4)", x.told(4), 2);
        for (int i = 3; i <= 240; i++) Due.due("feed, letter " + i, x.feed(' '), i);
        Due.due("feed, letter 241", x.feed(' '), Due.FULL);
        Due.due("feed, 241 and wrong", x.feed(256), Due.OUTSIDE);
        Due.due("told(4), full", x.told(4), 240);
        Due.due("north() of letter 0", x.north(), -11);
        Due.due("its fault()", x.fault(), 0);
        Due.due("told(4) then", x.told(4), 0);
        Due.due("feed(110) then", x.feed('n'), 1);
    }

    private static void north() {
        text("n2 7;", 0, Due.NONE);
        text("n7 2;p4;", 1, Due.NONE);
        text(" n 2  2 ; p 0 ; w 4 ; r 1 1 ; ", 1, Due.NONE);
        text("n002 007;p000;r001 006;", 1, Due.NONE);
        text("n3 3;p0;p1;p2;p3;p4;p0;p1;", 7, Due.NONE);
        text("n3 3;r0 0;r1 0;r2 0;r0 1;r1 1;r2 1;r0 2;r1 2;", 0, Due.NONE);
        text("n3 3;w0;", 0, Due.NONE);
        text("n3 3;r2 0;p1;w2;p2;r0 2;", 2, Due.NONE);
        text("", 0, Due.NONE);
        WingCensus x = Due.told("n3 4;p2;p4;r2 0;r0 3;w3;");
        Due.due("told(0)", x.told(0), 3);
        Due.due("told(1)", x.told(1), 4);
        Due.due("told(2)", x.told(2), 2);
        Due.due("told(3)", x.told(3), 2);
        Due.due("told(6)", x.told(6), 3);
        Due.due("rock 2", x.cell(2, 1), 1);
        Due.due("rock 9", x.cell(9, 1), 1);
        Due.due("no rock 3", x.cell(3, 1), 0);
        Due.due("kind of 0", x.person(0, 0), 2);
        Due.due("kind of 1", x.person(1, 0), 4);
        StringBuilder longest = new StringBuilder("n7 7;p3;");
        while (longest.length() < 240) longest.append(' ');
        text(longest.toString(), 1, Due.NONE);
    }

    /** A new north takes all of the old one away, but for the seed. */
    private static void northAnew() {
        WingCensus x = Due.told("n4 4;p3;p3;w2;r3 3;");
        x.lie(0, 0);
        x.night(1);
        x.seed(77);
        x.keep(0);
        x.keep(1);
        x.lie(1, 2);
        x.find(0, true);
        x.write(5);
        Due.feed(x, "n2 3;p0;");
        Due.due("north() again", x.north(), 1);
        int[] want = {2, 3, 1, 0, 0, 0, 0, 0, 0, 0, 0, Due.NONE, 0, Due.NONE, 0, 0, 0, 0};
        for (int k = 0; k < want.length; k++) Due.due("anew: told(" + k + ")", x.told(k), want[k]);
        Due.dueDents("anew", x, "00/00/00");
        Due.due("anew: undo(1)", x.undo(1), Due.NOT);
        Due.due("anew: goBack(0)", x.goBack(0), Due.NOT);
        Due.due("anew: goBack(1)", x.goBack(1), Due.NOT);
        Due.due("anew: seed", x.seed(78), 77);
        Due.due("north() of nothing", x.north(), 0);
        Due.due("no north: told(0)", x.told(0), 0);
        Due.due("no north: told(2)", x.told(2), 0);
        Due.due("no north: cell(0, 0)", x.cell(0, 0), Due.UNKNOWN);
        Due.due("no north: night(1)", x.night(1), Due.NOT);
        Due.due("no north: seed", x.seed(0), 78);
    }

    /** Nothing of an earlier north, good or bad, is left in a later one. */
    private static void northsInTurn() {
        WingCensus x = Due.told("n7 7;p0;p1;p2;w3;r0 0;r1 1;r6 6;");
        Due.feed(x, "n5 5;p0;w2;r4 4;r4 9;");
        x.north();
        Due.feed(x, "n3 3;p3;");
        x.north();
        Due.feed(x, "n3 3;p1;");
        Due.due("north(), the last", x.north(), 1);
        Due.due("its wind", x.told(6), 0);
        Due.due("its rocks", x.told(3), 0);
        Due.due("its kind", x.person(0, 0), 1);
        Due.due("its fits(0)", x.fits(0), 26);
        Due.due("its canLie(0, 0)", x.canLie(0, 0), 2);
        x.lie(0, 4);
        x.wind(1);
        x.night(1);
        Due.dueDents("its edges", x, "070/788/000");
        x.wind(3);
        x.night(1);
        Due.dueDents("its other edges", x, "050/676/000");
        x.north();
        Due.due("none: told(1)", x.told(1), 0);
        Due.due("none: fits(0)", x.fits(0), 0);
        Due.feed(x, "n3 3;r2 2;");
        x.north();
        x.north();
        x.north();
        Due.due("none: told(1)", x.told(1), 0);
        Due.due("none: told(3)", x.told(3), 0);
        Due.due("none: pin(0)", x.pin(0), Due.OUTSIDE);
    }

    private static void northWithFault() {
        WingCensus x = Due.told("n4 4;p3;p2;w2;r3 3;");
        x.lie(0, 0);
        x.keep(1);
        x.night(1);
        x.lie(1, 6);
        x.find(0, true);
        x.write(5);
        String before = Due.all(x);
        Due.feed(x, "n5 5;p0;w1;r0 0;p7;");
        Due.due("told(4)", x.told(4), 19);
        Due.due("north() with a fault", x.north(), -12);
        Due.due("fault()", x.fault(), 17);
        Due.due("told(4) then", x.told(4), 0);
        Due.due("told(0) then", x.told(0), 4);
        Due.due("rock then", x.cell(15, 1), 1);
        Due.due("kind then", x.person(1, 0), 2);
        Due.due("undo(1) then", x.undo(1), 1);
        Due.due("goBack(1) then", x.goBack(1), 1);
        WingCensus y = Due.told("n4 4;p3;p2;w2;r3 3;");
        y.lie(0, 0);
        y.keep(1);
        y.night(1);
        y.lie(1, 6);
        y.find(0, true);
        y.write(5);
        Due.dueSame("the same run again", Due.all(y), before);
        Due.feed(y, "n2 2;n");
        Due.due("north() again", y.north(), -13);
        Due.dueSame("behind a fault", Due.all(y), before);
    }

    private static void text(String text, int answer, int fault) {
        WingCensus x = new WingCensus();
        Due.feed(x, text);
        Due.due("north() of [" + text + "]", x.north(), answer);
        Due.due("fault() of [" + text + "]", x.fault(), fault);
    }

    private static void faults() {
        // 1: it cannot stand there
        text("p0;", -11, 0);
        text(" w0;n2 2;", -11, 1);
        text("r0 0;", -11, 0);
        text("x", -11, 0);
        text(";", -11, 0);
        text("2", -11, 0);
        text("N2 2;", -11, 0);
        text("n", -11, 1);
        text("n  ", -11, 3);
        text("n2", -11, 2);
        text("n2 ", -11, 3);
        text("n2;", -11, 2);
        text("n2 2", -11, 4);
        text("n2 2 2;", -11, 5);
        text("n2 2p0;", -11, 4);
        text("n;", -11, 1);
        text("n-2 2;", -11, 1);
        text("n2,2;", -11, 2);
        text("n2 2;;", -11, 5);
        text("n2 2;5", -11, 5);
        text("n2 2;q0;", -11, 5);
        text("n2 2;p", -11, 6);
        text("n2 2;p;", -11, 6);
        text("n2 2;p n", -11, 7);
        text("n2 2;p0", -11, 7);
        text("n2 2;p0 0;", -11, 8);
        text("n2 2;w", -11, 6);
        text("n2 2;w1", -11, 7);
        text("n2 2;r", -11, 6);
        text("n2 2;r0", -11, 7);
        text("n2 2;r0;", -11, 7);
        text("n2 2;r0 0", -11, 9);
        text("n2 2;r0 0 0;", -11, 10);
        text("n2\t2;", -11, 2);
        text("n2 n", -11, 3);
        text("n2 2;w0 w", -11, 8);
        // 2: numbers
        text("n1 2;", -12, 1);
        text("n2 1;", -12, 3);
        text("n8 2;", -12, 1);
        text("n2 8;", -12, 3);
        text("n22;", -12, 1);
        text("n 0002 2;", -12, 2);
        text("n2 1000;", -12, 3);
        text("n2 99999999999999999999;", -12, 3);
        text("n2 4294967298;", -12, 3);
        text("n9x", -12, 1);
        text("n2 2;p5;", -12, 6);
        text("n2 2;p0000;", -12, 6);
        text("n2 2;p10", -12, 6);
        text("n2 2;w5;", -12, 6);
        text("n3 2;r3 0;", -12, 6);
        text("n3 2;r0 2;", -12, 8);
        text("n2 3;r2 0;", -12, 6);
        text("n2 3;r 1  2;r1 3", -12, 15);
        text("n2 2;r0 12", -12, 8);
        // 3: once more than can be
        text("n2 2;n2 2;", -13, 5);
        text("n2 2; n", -13, 6);
        text("n2 2;w0;w1;", -13, 8);
        text("n2 2;w3;p0;w", -13, 11);
        text("n2 2;p0;p0;p0;p0;p0;p0;p0;p0;", -13, 26);
        text("n2 2;p0;p0;p0;p0;p0;p0;p0;p9;", -13, 26);
        text("n3 3;r0 0;r1 0;r2 0;r0 1;r1 1;r2 1;r0 2;r1 2;r2 2;", -13, 45);
        text("n3 3;r0 0;r1 0;r2 0;r0 1;r1 1;r2 1;r0 2;r1 2;r0 0;", -13, 45);
        // 4: a rock again
        text("n2 2;r1 0;r0 1;r1 0;", -14, 18);
        text("n2 2;r1 0;r 01  00 x", -14, 16);
        // the first of several
        text("n2 2;r0 0;r0 0;x", -14, 13);
        text("n2 2;p9;x", -12, 6);
        text("n2 2;x p9;", -11, 5);
        WingCensus x = new WingCensus();
        Due.feed(x, "n2");
        x.north();
        Due.due("fault()", x.fault(), 2);
        Due.due("fault() again", x.fault(), 2);
        Due.feed(x, "n2 2;");
        Due.due("fault() ahead of north()", x.fault(), 2);
        x.north();
        Due.due("fault() of a good one", x.fault(), Due.NONE);
    }

    /** The letters of an earlier, longer text do not stand behind the end. */
    private static void faultsBehindLongerTexts() {
        String[] texts = {"n", "n2", "n2 2", "n2 2;p", "n2 2;p3", "n2 2;p3;r", "n2 2;p3;r1", "n2 2;p3;r1 1"};
        for (String text : texts) {
            WingCensus x = Due.told("n2 2;p3;r1 1;");
            Due.feed(x, text);
            Due.due("north() of [" + text + "] behind a longer one", x.north(), -11);
            Due.due("its fault()", x.fault(), text.length());
        }
        WingCensus x = new WingCensus();
        Due.feed(x, "n2 2;p33;");
        x.north();
        Due.feed(x, "n2 2;p3");
        Due.due("north(), a figure behind the end", x.north(), -11);
        Due.due("its fault()", x.fault(), 7);
    }

    private static void told() {
        WingCensus x = Due.told("n5 4;p3;p2;p0;p3;w1;r4 3;");
        Due.due("told(-1)", x.told(-1), Due.OUTSIDE);
        Due.due("told(18)", x.told(18), Due.OUTSIDE);
        x.feed(' ');
        x.lie(0, 0);
        x.lie(1, 2);
        x.lie(3, 4);
        x.night(1);
        x.find(3, false);
        x.find(4, false);
        x.write(3);
        int[] want = {5, 4, 4, 1, 1, 1, 1, 11, 4, 4, 3, 2, 0, 0, 4, 2, 1, 4};
        for (int k = 0; k < want.length; k++) Due.due("told(" + k + ")", x.told(k), want[k]);
        x.rise(1);
        Due.due("TRUE, one up", x.told(9), 2);
        Due.due("who lies, one up", x.told(7), 9);
        Due.due("COUNT, one up", x.told(8), 4);
    }

    private static WingCensus dented(String size, int[] cells) {
        WingCensus x = Due.told("n" + size + ";p3;");
        for (int c : cells) {
            x.hare(c);
            x.hare(c);
        }
        return x;
    }

    private static void group(String size, int[] cells, int count, int groups, int begins, int forged) {
        WingCensus x = dented(size, cells);
        String what = size + " " + java.util.Arrays.toString(cells);
        Due.due(what + ": COUNT", x.told(8), count);
        Due.due(what + ": GROUPS", x.told(10), groups);
        Due.due(what + ": greatest", x.told(11), begins);
        Due.due(what + ": FORGED", x.told(12), forged);
    }

    private static void toldGroups() {
        group("4 4", new int[] {}, 0, 0, Due.NONE, 0);
        group("4 4", new int[] {5}, 1, 1, 5, 0);
        group("4 4", new int[] {5, 6}, 2, 1, 5, 0);
        group("4 4", new int[] {6, 10}, 2, 1, 6, 0);
        group("4 4", new int[] {4, 5, 6}, 1, 1, 4, 0);
        group("4 4", new int[] {2, 6, 10}, 1, 1, 2, 1);
        group("4 4", new int[] {4, 5, 9}, 1, 1, 4, 1);
        group("4 4", new int[] {1, 4, 5, 6}, 1, 1, 1, 0);
        group("4 4", new int[] {4, 5, 6, 9}, 1, 1, 4, 1);
        group("4 4", new int[] {0, 1, 4, 5}, 1, 1, 0, 1);
        group("4 4", new int[] {4, 5, 6, 7}, 1, 1, 4, 1);
        group("4 4", new int[] {4, 5, 6, 7, 8}, 2, 1, 4, 1);
        group("4 4", new int[] {4, 5, 6, 7, 8, 9}, 3, 1, 4, 1);
        group("4 4", new int[] {0, 1, 2, 3, 4, 5, 6, 7}, 3, 1, 0, 1);
        group("4 4", new int[] {0, 1, 2, 3, 4, 5, 6, 7, 8}, 4, 1, 0, 1);
        // cells 3 and 4 are no neighbours, nor are those cornerwise
        group("4 4", new int[] {3, 4}, 2, 2, 3, 0);
        group("4 4", new int[] {0, 5}, 2, 2, 0, 0);
        group("4 4", new int[] {0, 2, 5, 7, 8, 10, 13, 15}, 8, 8, 0, 0);
        // of like ones the least, else the greatest
        group("4 4", new int[] {0, 1, 6, 7}, 4, 2, 0, 0);
        group("4 4", new int[] {0, 2, 6}, 3, 2, 2, 0);
        // a group that begins in its least cell, not where it is met from the left
        group("4 4", new int[] {3, 7, 6, 5, 4, 0}, 3, 1, 0, 1);
        group("7 7", new int[] {48, 47, 41}, 1, 1, 41, 1);
        group("2 2", new int[] {0, 1, 2, 3}, 1, 1, 0, 1);
        WingCensus x = Due.told("n3 3;p3;");
        x.hare(4);
        Due.due("dented by 2 is not seen", x.told(10), 0);
        x.hare(4);
        x.night(1);
        Due.due("dented by 3 is seen", x.told(10), 1);
        x.night(1);
        Due.due("dented by 2 then", x.told(10), 0);
    }

    private static void toldFarOut() {
        WingCensus x = Due.told("n7 7;p3;p3;p3;p3;");
        Due.due("nobody far out", x.told(13), Due.NONE);
        x.lie(2, 24);
        Due.due("one alone", x.told(13), Due.NONE);
        x.lie(3, 26);
        Due.due("two: the least", x.told(13), 2);
        x.lie(1, 48);
        Due.due("three", x.told(13), 1);
        x.lie(0, 0);
        Due.due("four", x.told(13), 0);
        x.rise(0);
        Due.due("three again", x.told(13), 1);
        x.rise(1);
        x.rise(2);
        Due.due("one again", x.told(13), Due.NONE);
        WingCensus y = Due.told("n7 7;p3;p3;p3;");
        y.lie(0, 0);
        y.lie(1, 1);
        y.lie(2, 6);
        Due.due("0 is the nearest of 1", y.told(13), 2);
    }

    private static void toldBare() {
        WingCensus x = Due.told("n3 2;p3;p0;");
        Due.due("bare", x.told(14), 0);
        x.hare(0);
        Due.due("by 2", x.told(14), 2);
        x.lie(0, 4);
        Due.due("by 9, still", x.told(14), 9);
        x.wind(1);
        Due.due("by 9, wind", x.told(14), 5);
        x.lie(1, 1);
        Due.due("not there", x.told(14), 5);
        Due.due("nothing changes by it", x.cell(4, 0), 9);
        Due.due("nor nights", x.told(5), 0);
    }

    private static void cell() {
        WingCensus x = Due.told("n4 3;p3;p0;p3;r0 2;");
        Due.due("cell(-1, 0)", x.cell(-1, 0), Due.UNKNOWN);
        Due.due("cell(12, 0)", x.cell(12, 0), Due.UNKNOWN);
        Due.due("cell(12, 9)", x.cell(12, 9), Due.UNKNOWN);
        Due.due("cell(0, -1)", x.cell(0, -1), Due.OUTSIDE);
        Due.due("cell(0, 4)", x.cell(0, 4), Due.OUTSIDE);
        Due.due("cell(8, 1)", x.cell(8, 1), 1);
        Due.due("cell(11, 1)", x.cell(11, 1), 0);
        x.lie(1, 1);
        Due.due("cell(1, 0)", x.cell(1, 0), 9);
        Due.due("cell(3, 0)", x.cell(3, 0), 0);
        Due.due("cell(0, 2)", x.cell(0, 2), 3);
        Due.due("cell(3, 2)", x.cell(3, 2), 0);
        Due.due("cell(1, 3)", x.cell(1, 3), 1);
        Due.due("cell(0, 3): a wing only", x.cell(0, 3), Due.NONE);
        x.lie(2, 6);
        Due.due("cell(6, 2)", x.cell(6, 2), 4);
        x.night(9);
        Due.due("cell(6, 2) blurred", x.cell(6, 2), 0);
        x.lie(0, 6);
        Due.due("cell(6, 3): the least", x.cell(6, 3), 0);
        x.rise(0);
        Due.due("cell(6, 3): the other", x.cell(6, 3), 2);
    }

    private static void person() {
        WingCensus x = Due.told("n4 3;p1;p4;w1;");
        Due.due("person(-1, 0)", x.person(-1, 0), Due.UNKNOWN);
        Due.due("person(2, 0)", x.person(2, 0), Due.UNKNOWN);
        Due.due("person(2, 3)", x.person(2, 3), Due.UNKNOWN);
        Due.due("person(0, -1)", x.person(0, -1), Due.OUTSIDE);
        Due.due("person(0, 3)", x.person(0, 3), Due.OUTSIDE);
        Due.due("person(0, 0)", x.person(0, 0), 1);
        Due.due("person(1, 0)", x.person(1, 0), 4);
        Due.due("person(0, 1)", x.person(0, 1), Due.NONE);
        Due.due("person(0, 2)", x.person(0, 2), 0);
        x.lie(0, 5);
        Due.due("person(0, 1) lies", x.person(0, 1), 5);
        Due.due("person(0, 2) lies", x.person(0, 2), 4);
        x.night(4);
        Due.due("person(0, 2) blurred", x.person(0, 2), 2);
        Due.due("person(0, 1) blurred", x.person(0, 1), 5);
        x.rise(0);
        Due.due("person(0, 2) up", x.person(0, 2), 0);
        Due.due("person(0, 1) up", x.person(0, 1), Due.NONE);
    }
}
