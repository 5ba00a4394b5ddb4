/** Promises 18 to 24: left, willCount, wrongFirst, canLie, round, touch, still. */
public final class TriedTest {
    public static void main(String[] args) {
        left();
        willCount();
        wrongFirst();
        canLie();
        canLieCounted();
        round();
        roundOrder();
        touch();
        touchByShape();
        still();
        nothingChanges();
        Due.end();
    }

    private static void left() {
        WingCensus x = Due.told("n3 2;p3;w1;r0 1;");
        x.lie(0, 4);
        x.hare(2);
        Due.due("left(-1, 0)", x.left(-1, 0), Due.UNKNOWN);
        Due.due("left(6, 0)", x.left(6, 0), Due.UNKNOWN);
        Due.due("left(6, 21)", x.left(6, 21), Due.UNKNOWN);
        Due.due("left(4, -1)", x.left(4, -1), Due.OUTSIDE);
        Due.due("left(4, 21)", x.left(4, 21), Due.OUTSIDE);
        Due.due("left(4, 0)", x.left(4, 0), 9);
        Due.due("left(4, 1), behind a rock", x.left(4, 1), 8);
        Due.due("left(4, 8)", x.left(4, 8), 1);
        Due.due("left(4, 9)", x.left(4, 9), 0);
        Due.due("left(4, 20)", x.left(4, 20), 0);
        Due.due("left(2, 1)", x.left(2, 1), 0);
        Due.due("left(3, 1), the rock", x.left(3, 1), 0);
        Due.due("cell(4, 0) stays", x.cell(4, 0), 9);
        Due.due("nights stay", x.told(5), 0);
    }

    private static void willCount() {
        WingCensus x = Due.told("n5 2;p0;");
        x.lie(0, 2);
        x.hare(0);
        x.hare(0);
        Due.due("willCount(-1)", x.willCount(-1), Due.OUTSIDE);
        Due.due("willCount(21)", x.willCount(21), Due.OUTSIDE);
        Due.due("willCount(0)", x.willCount(0), 1);
        Due.due("willCount(1)", x.willCount(1), 1);
        Due.due("willCount(2)", x.willCount(2), 1);
        Due.due("willCount(6)", x.willCount(6), 1);
        Due.due("willCount(7)", x.willCount(7), 0);
        Due.due("willCount(20)", x.willCount(20), 0);
        // the edge of a group goes first: three, then two, then one are seen
        WingCensus y = Due.told("n3 2;p0;w1;");
        y.lie(0, 1);
        int[] want = {1, 1, 1, 1, 2, 2, 1, 0, 0};
        for (int n = 0; n < want.length; n++) Due.due("willCount(" + n + ") by wind", y.willCount(n), want[n]);
    }

    private static void wrongFirst() {
        WingCensus x = Due.told("n5 3;p0;p2;p3;");
        Due.due("wrongFirst(), nobody", x.wrongFirst(), Due.NONE);
        x.hare(0);
        Due.due("wrongFirst(), not seen", x.wrongFirst(), Due.NONE);
        x.hare(0);
        Due.due("wrongFirst(), a hare", x.wrongFirst(), 0);
        x.undo(2);
        x.lie(0, 2);
        Due.due("wrongFirst(), one", x.wrongFirst(), 7);
        x.lie(1, 9);
        Due.due("wrongFirst(), one with child, cornerwise", x.wrongFirst(), 7);
        x.undo(1);
        x.lie(1, 8);
        Due.due("told(8)", x.told(8), 2);
        Due.due("wrongFirst(), five in one group", x.wrongFirst(), 0);
        x.undo(1);
        x.lie(2, 10);
        Due.due("wrongFirst(), two", x.wrongFirst(), 7);
        x.night(3);
        Due.due("wrongFirst(), three nights on", x.wrongFirst(), 4);
        x.rise(0);
        Due.due("wrongFirst(), one up", x.wrongFirst(), 0);
        x.rise(2);
        x.night(4);
        Due.due("wrongFirst(), all up and blurred", x.wrongFirst(), Due.NONE);
    }

    private static void canLie() {
        WingCensus x = Due.told("n3 3;p0;p1;p2;p3;p4;r0 0;");
        Due.due("canLie(-1, 0)", x.canLie(-1, 0), Due.UNKNOWN);
        Due.due("canLie(5, 0)", x.canLie(5, 0), Due.UNKNOWN);
        Due.due("canLie(5, 4)", x.canLie(5, 4), Due.UNKNOWN);
        Due.due("canLie(0, -1)", x.canLie(0, -1), Due.OUTSIDE);
        Due.due("canLie(0, 4)", x.canLie(0, 4), Due.OUTSIDE);
        int[] many = {2, 2, 5, 8, 5};
        int[] first = {4, 4, 1, 1, 1};
        for (int p = 0; p < 5; p++) {
            Due.due("canLie(" + p + ", 0)", x.canLie(p, 0), many[p]);
            Due.due("canLie(" + p + ", 1)", x.canLie(p, 1), first[p]);
        }
        x.lie(0, 4);
        int[] then = {1, 0, 0, 5, 3};
        int[] thenFirst = {7, Due.NONE, Due.NONE, 1, 1};
        for (int p = 0; p < 5; p++) {
            Due.due("canLie(" + p + ", 0) then", x.canLie(p, 0), then[p]);
            Due.due("canLie(" + p + ", 1) then", x.canLie(p, 1), thenFirst[p]);
            if (then[p] == 0) Due.due("canLie(" + p + ", 2) then", x.canLie(p, 2), Due.NONE);
            if (then[p] == 0) Due.due("canLie(" + p + ", 3) then", x.canLie(p, 3), Due.NONE);
        }
        x.hare(7);
        Due.due("canLie(0, 0), a hare", x.canLie(0, 0), 0);
    }

    private static void canLieCounted() {
        WingCensus x = Due.told("n5 3;p3;p3;");
        x.lie(0, 0);
        // beside it: a group of two counts 2; apart: 1 and 1
        Due.due("canLie(1, 2)", x.canLie(1, 2), 1);
        Due.due("canLie(1, 3)", x.canLie(1, 3), 1);
        x.hare(1);
        x.hare(1);
        // now two count 2: a third beside them makes 1, apart 3
        Due.due("canLie(1, 2), two", x.canLie(1, 2), 3);
        Due.due("canLie(1, 3), two", x.canLie(1, 3), 2);
        x.hare(4);
        Due.due("canLie(1, 0), a shallow hare", x.canLie(1, 0), 12);
        x.hare(14);
        x.hare(14);
        // three apart make 4; beside 14 the pairs make 4 as well: the least is 3
        Due.due("canLie(1, 2), three", x.canLie(1, 2), 3);
        // what joins none counts 4, what joins the pair 2
        Due.due("canLie(1, 3), three", x.canLie(1, 3), 2);
        Due.due("COUNT stays", x.told(8), 3);
    }

    private static void round() {
        WingCensus x = Due.told("n7 7;p3;p3;p3;p3;p3;p3;r3 3;");
        for (int p = 0; p < 5; p++) x.lie(p, 8 * p + (p >= 3 ? 1 : 0));
        Due.due("round(-1, 1, 0)", x.round(-1, 1, 0), Due.UNKNOWN);
        Due.due("round(49, 1, 0)", x.round(49, 1, 0), Due.UNKNOWN);
        Due.due("round(0, 64, 0)", x.round(0, 64, 0), Due.UNKNOWN);
        Due.due("round(0, 65, 2)", x.round(0, 65, 2), Due.UNKNOWN);
        Due.due("round(0, -1, 0)", x.round(0, -1, 0), Due.UNKNOWN);
        Due.due("round(0, MIN, 0)", x.round(0, Integer.MIN_VALUE, 0), Due.UNKNOWN);
        Due.due("round(0, 1, 2)", x.round(0, 1, 2), Due.OUTSIDE);
        Due.due("round(0, 1, -1)", x.round(0, 1, -1), Due.OUTSIDE);
        Due.due("round(0, 0, 2)", x.round(0, 0, 2), Due.OUTSIDE);
        Due.due("round(0, 0, 0)", x.round(0, 0, 0), Due.NOT);
        Due.due("round(0, 32, 0): lies not", x.round(0, 32, 0), Due.NOT);
        Due.due("round(0, 33, 1): one lies not", x.round(0, 33, 1), Due.NOT);
        x.lie(5, 42);
        Due.due("round(0, 63, 0): six", x.round(0, 63, 0), Due.NOT);
        Due.due("round(0, 1, 0): there already", x.round(0, 1, 0), 0);
        Due.due("round(0, 1, 1)", x.round(0, 1, 1), 1);
        Due.due("round(48, 1, 0)", x.round(48, 1, 0), 12);
        Due.due("round(48, 32, 1)", x.round(48, 32, 1), 6);
        Due.due("round(0, 31, 0)", x.round(0, 31, 0), 9);
        Due.due("round(0, 31, 1)", x.round(0, 31, 1), 12345);
        Due.due("round(48, 31, 0)", x.round(48, 31, 0), 12);
        Due.due("round(48, 31, 1)", x.round(48, 31, 1), 54321);
    }

    private static void roundOrder() {
        WingCensus x = Due.told("n7 2;p3;p3;p3;");
        x.lie(0, 6);
        x.lie(1, 0);
        x.lie(2, 4);
        // from the middle: right first, then left, is 3 + 6; left first is 3 + 6, too
        Due.due("round(3, 3, 0)", x.round(3, 3, 0), 9);
        Due.due("round(3, 3, 1): of like ones the least", x.round(3, 3, 1), 12);
        Due.due("round(2, 7, 0)", x.round(2, 7, 0), 8);
        Due.due("round(2, 7, 1)", x.round(2, 7, 1), 231);
        Due.due("round(3, 7, 1)", x.round(3, 7, 1), 132);
        Due.due("round(4, 7, 0)", x.round(4, 7, 0), 8);
        Due.due("round(4, 7, 1)", x.round(4, 7, 1), 132);
        // nearest first is not shortest
        WingCensus y = Due.told("n7 2;p3;p3;p3;");
        y.lie(0, 4);
        y.lie(1, 1);
        y.lie(2, 6);
        Due.due("round(3, 7, 0)", y.round(3, 7, 0), 7);
        Due.due("round(3, 7, 1)", y.round(3, 7, 1), 213);
    }

    private static void touch() {
        WingCensus x = Due.told("n7 3;p3;p3;p3;p3;p0;");
        Due.due("touch(-1), nobody", x.touch(-1), 0);
        x.lie(3, 0);
        x.lie(1, 1);
        x.lie(0, 8);
        x.lie(2, 10);
        Due.due("touch(-1)", x.touch(-1), 2);
        Due.due("touch(0)", x.touch(0), 1);
        Due.due("touch(1)", x.touch(1), 13);
        Due.due("touch(2)", x.touch(2), Due.NONE);
        Due.due("touch(-2)", x.touch(-2), Due.NONE);
        Due.due("touch(MAX)", x.touch(Integer.MAX_VALUE), Due.NONE);
        Due.due("touch(MIN)", x.touch(Integer.MIN_VALUE), Due.NONE);
        x.lie(4, 16);
        int[] want = {1, 4, 13, 24, Due.NONE};
        for (int i = 0; i < want.length; i++) Due.due("touch(" + i + ") then", x.touch(i), want[i]);
        x.rise(1);
        Due.due("touch(-1), one up", x.touch(-1), 2);
        Due.due("touch(0), one up", x.touch(0), 4);
        x.night(20);
        Due.due("touch(-1), blurred", x.touch(-1), 2);
    }

    private static void touchByShape() {
        // the same cells: when the first is blurred another lies there
        WingCensus x = Due.told("n4 3;p3;p0;");
        x.lie(0, 1);
        x.night(9);
        x.lie(1, 1);
        Due.due("touch(0), the same cell", x.touch(0), 1);
        // neither cornerwise nor round the edge
        WingCensus y = Due.told("n4 3;p3;p3;p3;");
        y.lie(0, 3);
        y.lie(1, 4);
        y.lie(2, 9);
        Due.due("touch(-1), apart", y.touch(-1), 0);
        // wings, not middles
        WingCensus z = Due.told("n7 2;p0;p0;p1;");
        z.lie(0, 1);
        z.lie(1, 4);
        Due.due("touch(0), fingertips", z.touch(0), 1);
        z.night(9);
        z.lie(2, 12);
        Due.due("touch(1), one above the other", z.touch(1), 12);
        Due.due("touch(-1)", z.touch(-1), 2);
    }

    private static void still() {
        WingCensus x = new WingCensus();
        Due.due("still(-1, 50)", x.still(-1, 50), Due.OUTSIDE);
        Due.due("still(61, 50)", x.still(61, 50), Due.OUTSIDE);
        Due.due("still(1, -1)", x.still(1, -1), Due.OUTSIDE);
        Due.due("still(1, 101)", x.still(1, 101), Due.OUTSIDE);
        Due.due("still(0, 0)", x.still(0, 0), 1000000000);
        Due.due("still(0, 100)", x.still(0, 100), 1000000000);
        Due.due("still(60, 100)", x.still(60, 100), 1000000000);
        Due.due("still(1, 0)", x.still(1, 0), 0);
        Due.due("still(1, 37)", x.still(1, 37), 370000000);
        Due.due("still(9, 50)", x.still(9, 50), 1953125);
        Due.due("still(10, 50)", x.still(10, 50), 976562);
        Due.due("still(11, 50)", x.still(11, 50), 488281);
        Due.due("still(12, 50)", x.still(12, 50), 244140);
        Due.due("still(60, 50)", x.still(60, 50), 0);
        Due.due("still(5, 1)", x.still(5, 1), 0);
        Due.due("still(4, 1)", x.still(4, 1), 10);
        Due.due("still(60, 99)", x.still(60, 99), 547156620);
    }

    private static void nothingChanges() {
        WingCensus x = Due.told("n5 4;p0;p1;p2;w2;r4 0;");
        x.lie(0, 6);
        x.lie(2, 8);
        x.night(2);
        x.find(3, true);
        x.write(3);
        String before = Due.all(x);
        x.left(3, 5);
        x.willCount(7);
        x.wrongFirst();
        for (int k = 0; k < 4; k++) x.canLie(1, k);
        x.round(0, 5, 0);
        x.round(0, 5, 1);
        x.touch(0);
        x.still(3, 3);
        for (int k = 0; k < 3; k++) x.fits(k);
        x.look();
        x.judge();
        Due.dueSame("behind questions", Due.all(x), before);
    }
}
