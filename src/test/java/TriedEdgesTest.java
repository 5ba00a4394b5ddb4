/** The edges of what is tried, found, written and kept: the document's section 3, promises 18 to 33, sentence by sentence. */
public final class TriedEdgesTest {
    public static void main(String[] args) {
        left();
        willCount();
        wrongFirst();
        wrongFirstNone();
        canLieNowhere();
        canLieBounds();
        countedMostAndHidden();
        canLieWhoLies();
        roundSet();
        roundRefused();
        roundSteps();
        roundLikeOnes();
        touchNobody();
        touchAll();
        touchNeighbours();
        stillBounds();
        stillCut();
        foundAtMost();
        foundWhere();
        fitsAll();
        fitsNothing();
        fitsOne();
        fitsBare();
        look();
        book();
        judge();
        tear();
        seed();
        imagesThatThereAre();
        imagesKeep();
        imagesAreOneEach();
        Due.end();
    }

    // ---- tried

    private static void left() {
        Due.says("LEFT: by how much a CELL is DENTED behind n NIGHTS (0 .. 20)");
        WingCensus x = Due.told("n7 7;p3;p3;");
        x.lie(0, 0);
        x.lie(1, 48);
        for (int c = 0; c <= 48; c += 48) {
            for (int n = 0; n <= 20; n++) Due.due("left(" + c + ", " + n + ")", x.left(c, n), Math.max(0, 9 - n));
            Due.due("left(" + c + ", -1)", x.left(c, -1), Due.OUTSIDE);
            Due.due("left(" + c + ", 21)", x.left(c, 21), Due.OUTSIDE);
        }
        for (int c : new int[] {-1, 49, Integer.MIN_VALUE, Integer.MAX_VALUE}) {
            Due.due("left(" + c + ", 0)", x.left(c, 0), Due.UNKNOWN);
            Due.due("left(" + c + ", 21)", x.left(c, 21), Due.UNKNOWN);
        }
        Due.due("left(0, 0) without a NORTH", new WingCensus().left(0, 0), Due.UNKNOWN);
        Due.due("left(0, 21) without a NORTH", new WingCensus().left(0, 21), Due.UNKNOWN);
        Due.says("TRIED from now: nothing changes by it");
        Due.due("NIGHTS", x.told(5), 0);
        Due.due("dents", x.cell(0, 0), 9);
        Due.due("deeds", x.told(17), 2);
        x.wind(1);
        Due.due("left(0, 4) by wind", x.left(0, 4), 1);
        Due.due("left(0, 5) by wind", x.left(0, 5), 0);
    }

    private static void willCount() {
        Due.says("WILL COUNT: COUNT behind n NIGHTS (0 .. 20)");
        WingCensus x = Due.told("n2 2;p3;");
        x.lie(0, 3);
        for (int n = 0; n <= 20; n++) Due.due("willCount(" + n + ")", x.willCount(n), n <= 6 ? 1 : 0);
        for (int n : new int[] {-1, 21, Integer.MIN_VALUE, Integer.MAX_VALUE}) {
            Due.due("willCount(" + n + ")", x.willCount(n), Due.OUTSIDE);
            Due.due("willCount(" + n + ") without a NORTH", new WingCensus().willCount(n), Due.OUTSIDE);
        }
        Due.due("willCount(0) without a NORTH", new WingCensus().willCount(0), 0);
        Due.due("NIGHTS", x.told(5), 0);
    }

    private static int wrongFirstOf(int kind, int wind) {
        WingCensus x = Due.told("n3 3;p" + kind + ";w" + wind + ";");
        x.lie(0, 4);
        return x.wrongFirst();
    }

    private static void wrongFirst() {
        Due.says("WRONG FIRST: behind how many NIGHTS (0 .. 20) COUNT is not TRUE first");
        int[] still = {7, 7, 7, 7, 0};
        for (int kind = 0; kind < 5; kind++) Due.due("still, kind " + kind, wrongFirstOf(kind, 0), still[kind]);
        Due.due("wind, kind 3", wrongFirstOf(3, 1), 4);
        Due.due("wind to the right, kind 0: two of three are left", wrongFirstOf(0, 1), 4);
        Due.due("wind down, kind 2: one of two is left", wrongFirstOf(2, 2), 4);
        WingCensus x = Due.told("n2 2;p3;");
        x.lie(0, 0);
        for (int n = 6; n >= 0; n--) {
            x.night(1);
            Due.due("behind " + (7 - n), x.wrongFirst(), n);
        }
        x.night(20);
        Due.due("blurred, but lies", x.wrongFirst(), 0);
    }

    private static void wrongFirstNone() {
        Due.says("WRONG FIRST; NONE");
        Due.due("without a NORTH", new WingCensus().wrongFirst(), Due.NONE);
        WingCensus x = Due.told("n2 2;p3;");
        Due.due("nobody lies, nothing is left", x.wrongFirst(), Due.NONE);
        x.hare(0);
        Due.due("what is not SEEN", x.wrongFirst(), Due.NONE);
        x.hare(0);
        Due.due("what is SEEN", x.wrongFirst(), 0);
        x.night(2);
        Due.due("not SEEN any more", x.wrongFirst(), Due.NONE);
        Due.due("nothing changes by it", x.told(5), 2);
    }

    private static void canLieNowhere() {
        Due.says("CAN LIE: how many; the first; NONE");
        WingCensus x = Due.told("n2 2;p0;p3;");
        int[] want = {0, Due.NONE, Due.NONE, Due.NONE};
        for (int k = 0; k < 4; k++) Due.due("too narrow: canLie(0, " + k + ")", x.canLie(0, k), want[k]);
        for (int c = 0; c < 3; c++) x.hare(c);
        int[] last = {1, 3, 3, 3};
        for (int k = 0; k < 4; k++) Due.due("the last cell alone: canLie(1, " + k + ")", x.canLie(1, k), last[k]);
        x.hare(3);
        for (int k = 0; k < 4; k++) Due.due("all dented: canLie(1, " + k + ")", x.canLie(1, k), want[k]);
        x.night(2);
        int[] bare = {4, 0, 0, 0};
        for (int k = 0; k < 4; k++) Due.due("all bare: canLie(1, " + k + ")", x.canLie(1, k), bare[k]);
        WingCensus rocks = Due.told("n2 2;p3;r0 0;r1 0;r0 1;r1 1;");
        for (int k = 0; k < 4; k++) Due.due("all rocks: canLie(0, " + k + ")", rocks.canLie(0, k), want[k]);
    }

    private static void canLieBounds() {
        Due.says("canLie: UNKNOWN, OUTSIDE");
        WingCensus x = Due.told("n2 2;p3;p3;p3;p3;p3;p3;p3;");
        Due.due("canLie(6, 0)", x.canLie(6, 0), 4);
        for (int k : new int[] {-1, 4, Integer.MIN_VALUE, Integer.MAX_VALUE}) {
            Due.due("canLie(0, " + k + ")", x.canLie(0, k), Due.OUTSIDE);
            Due.due("canLie(6, " + k + ")", x.canLie(6, k), Due.OUTSIDE);
            Due.due("canLie(7, " + k + ")", x.canLie(7, k), Due.UNKNOWN);
            Due.due("canLie(-1, " + k + ")", x.canLie(-1, k), Due.UNKNOWN);
        }
        for (int k = 0; k < 4; k++) Due.due("canLie(7, " + k + ")", x.canLie(7, k), Due.UNKNOWN);
        for (int k = 0; k < 4; k++) Due.due("canLie(0, " + k + ") without people", Due.told("n2 2;").canLie(0, k), Due.UNKNOWN);
    }

    private static void countedMostAndHidden() {
        Due.says("COUNTED MOST: of these the one by which COUNT would be most then; of like ones the least; HIDDEN: least");
        // two at 7, 8 count 2; a third beside them makes it 1, one apart 3
        WingCensus x = Due.told("n3 3;p4;p3;");
        x.lie(0, 7);
        Due.due("the first", x.canLie(1, 1), 0);
        Due.due("COUNTED MOST: the first cell", x.canLie(1, 2), 0);
        Due.due("HIDDEN: not the first that can be", x.canLie(1, 3), 4);
        // two at 0, 1: 2, 3, 4 are beside them
        WingCensus y = Due.told("n3 3;p4;p3;");
        y.lie(0, 0);
        Due.due("the first", y.canLie(1, 1), 2);
        Due.due("COUNTED MOST: not the first that can be", y.canLie(1, 2), 5);
        Due.due("HIDDEN: the first that can be", y.canLie(1, 3), 2);
        // only the last cell is apart from the two at 3, 4 and from the shallow ones
        WingCensus z = Due.told("n3 3;p4;p3;");
        z.lie(0, 3);
        z.hare(2);
        Due.due("COUNTED MOST: the last cell", z.canLie(1, 2), 8);
        Due.due("HIDDEN", z.canLie(1, 3), 0);
        // one more makes four a group of five, which counts 2
        WingCensus five = Due.told("n4 2;p3;");
        five.pin(0);
        Due.due("COUNT of four", five.told(8), 1);
        Due.due("COUNTED MOST: a fifth", five.canLie(0, 2), 4);
        Due.due("HIDDEN: all alike", five.canLie(0, 3), 4);
        Due.says("COUNTED MOST, HIDDEN: nothing changes by it");
        Due.due("COUNT", five.told(8), 1);
        Due.due("who lies", five.told(7), 0);
        Due.due("deeds", five.told(17), 1);
    }

    private static void canLieWhoLies() {
        Due.says("CELLS where a PERSON (wherever lying now) can LIE now");
        WingCensus x = Due.told("n2 2;p3;p3;");
        x.lie(0, 0);
        Due.due("canLie(0, 0): not where he lies", x.canLie(0, 0), 3);
        Due.due("canLie(1, 0): like anybody", x.canLie(1, 0), 3);
        Due.due("canLie(0, 1)", x.canLie(0, 1), 1);
        Due.due("canLie(0, 2): his old dent counts, too", x.canLie(0, 2), 1);
        x.night(9);
        Due.due("canLie(0, 0): bare, where he lies, too", x.canLie(0, 0), 4);
        Due.due("canLie(0, 1): bare", x.canLie(0, 1), 0);
    }

    // ---- the round

    /** Seven small ones in the upper row of 7 by 2. */
    private static WingCensus row() {
        WingCensus x = Due.told("n7 2;p3;p3;p3;p3;p3;p3;p3;r0 1;");
        for (int p = 0; p < 7; p++) x.lie(p, p);
        return x;
    }

    private static void roundSet() {
        Due.says("CELLS of all PEOPLE of a SET (one to five who lie)");
        WingCensus x = row();
        int[] sets = {1, 3, 7, 15, 31};
        int[] orders = {1, 12, 123, 1234, 12345};
        for (int k = 0; k < 5; k++) {
            Due.due("round(0, " + sets[k] + ", 0)", x.round(0, sets[k], 0), k);
            Due.due("round(0, " + sets[k] + ", 1)", x.round(0, sets[k], 1), orders[k]);
        }
        Due.due("none", x.round(0, 0, 0), Due.NOT);
        Due.due("none, the order", x.round(0, 0, 1), Due.NOT);
        Due.due("six", x.round(0, 63, 0), Due.NOT);
        Due.due("other six", x.round(0, 126, 1), Due.NOT);
        Due.due("seven", x.round(0, 127, 0), Due.NOT);
        Due.due("the last five", x.round(0, 124, 0), 6);
        Due.due("the last five, the order", x.round(0, 124, 1), 34567);
        Due.due("the last five from the right", x.round(6, 124, 0), 4);
        Due.due("the last five from the right, the order", x.round(6, 124, 1), 76543);
        Due.due("the last one", x.round(0, 64, 1), 7);
        x.rise(6);
        Due.due("one who does not lie", x.round(0, 64, 0), Due.NOT);
        Due.due("one of two does not lie", x.round(0, 65, 1), Due.NOT);
        Due.due("one of six does not lie", x.round(0, 95, 1), Due.NOT);
        x.night(9);
        Due.due("who lies blurred lies", x.round(0, 32, 0), 5);
    }

    private static void roundRefused() {
        Due.says("round: UNKNOWN, OUTSIDE, NOT");
        WingCensus x = row();
        for (int c : new int[] {-1, 14, Integer.MIN_VALUE, Integer.MAX_VALUE}) {
            Due.due("round(" + c + ", 1, 0)", x.round(c, 1, 0), Due.UNKNOWN);
            Due.due("round(" + c + ", 1, 2)", x.round(c, 1, 2), Due.UNKNOWN);
            Due.due("round(" + c + ", 0, 0)", x.round(c, 0, 0), Due.UNKNOWN);
        }
        for (int set : new int[] {128, 129, 1 << 30, -1, Integer.MIN_VALUE, Integer.MIN_VALUE + 1}) {
            Due.due("round(0, " + set + ", 0)", x.round(0, set, 0), Due.UNKNOWN);
            Due.due("round(0, " + set + ", 2)", x.round(0, set, 2), Due.UNKNOWN);
        }
        for (int what : new int[] {-1, 2, Integer.MIN_VALUE, Integer.MAX_VALUE}) {
            Due.due("round(0, 1, " + what + ")", x.round(0, 1, what), Due.OUTSIDE);
            Due.due("round(0, 0, " + what + ")", x.round(0, 0, what), Due.OUTSIDE);
            Due.due("round(0, 127, " + what + ")", x.round(0, 127, what), Due.OUTSIDE);
        }
        Due.due("round(13, 1, 0): the last cell", x.round(13, 1, 0), 7);
        WingCensus two = Due.told("n2 2;p3;p3;");
        Due.due("round(0, 4, 0) of two people", two.round(0, 4, 0), Due.UNKNOWN);
        Due.due("round(0, 3, 0) of two people, nobody lies", two.round(0, 3, 0), Due.NOT);
        WingCensus none = Due.told("n2 2;");
        Due.due("round(0, 0, 0) of no people", none.round(0, 0, 0), Due.NOT);
        Due.due("round(0, 1, 0) of no people", none.round(0, 1, 0), Due.UNKNOWN);
        Due.due("round(0, 0, 0) without a NORTH", new WingCensus().round(0, 0, 0), Due.UNKNOWN);
    }

    private static void roundSteps() {
        Due.says("from CELL to CELL side by side, ROCKS no matter");
        WingCensus x = Due.told("n7 7;p3;p3;r1 0;r0 1;r5 6;r6 5;");
        x.lie(0, 0);
        x.lie(1, 48);
        Due.due("across the whole field", x.round(0, 2, 0), 12);
        Due.due("there already", x.round(48, 2, 0), 0);
        Due.due("from a ROCK", x.round(1, 1, 0), 1);
        Due.due("there and on", x.round(48, 3, 0), 12);
        Due.due("there and on, the order", x.round(48, 3, 1), 21);
        Due.due("from 6 to both", x.round(6, 3, 0), 18);
        // corners and the middle: the way that goes round
        WingCensus y = Due.told("n7 7;p3;p3;p3;p3;p3;");
        int[] at = {0, 48, 6, 42, 24};
        for (int p = 0; p < 5; p++) y.lie(p, at[p]);
        Due.due("five, steps", y.round(24, 31, 0), 24);
        Due.due("five, the order", y.round(24, 31, 1), 51324);
    }

    private static void roundLikeOnes() {
        Due.says("the order (of like ones the least number)");
        WingCensus x = Due.told("n3 3;p3;p3;p3;");
        x.lie(1, 0);
        x.night(9);
        x.lie(0, 0);
        x.night(9);
        x.lie(2, 0);
        Due.due("three at the same CELL", x.round(0, 7, 0), 0);
        Due.due("three at the same CELL, the order", x.round(0, 7, 1), 123);
        Due.due("the latter two", x.round(8, 6, 1), 23);
        WingCensus y = Due.told("n3 3;p3;p3;");
        y.lie(1, 0);
        y.lie(0, 8);
        Due.due("from the middle", y.round(4, 3, 0), 6);
        Due.due("from the middle, the order", y.round(4, 3, 1), 12);
        Due.due("from beside the second, the order", y.round(1, 3, 1), 21);
    }

    // ---- touch

    private static void touchNobody() {
        Due.says("TOUCH: i = NONE how many, else the i-th; NONE");
        WingCensus x = Due.told("n3 3;p3;p3;");
        WingCensus none = new WingCensus();
        for (int i : new int[] {0, 1, -2, Integer.MIN_VALUE, Integer.MAX_VALUE}) {
            Due.due("touch(" + i + "), nobody", x.touch(i), Due.NONE);
            Due.due("touch(" + i + ") without a NORTH", none.touch(i), Due.NONE);
        }
        Due.due("touch(-1), nobody", x.touch(-1), 0);
        Due.due("touch(-1) without a NORTH", none.touch(-1), 0);
        x.lie(0, 0);
        Due.due("touch(-1), one", x.touch(-1), 0);
        x.lie(1, 1);
        Due.due("touch(-1), a pair", x.touch(-1), 1);
        Due.due("touch(0), a pair", x.touch(0), 1);
        Due.due("touch(1), a pair", x.touch(1), Due.NONE);
        Due.due("touch(-2), a pair", x.touch(-2), Due.NONE);
    }

    private static void touchAll() {
        Due.says("pairs of PEOPLE who lie (10 times the lesser and the other, rising) .. or the same");
        WingCensus x = Due.told("n2 2;p3;p3;p3;p3;p3;p3;p3;");
        for (int p = 6; p >= 0; p--) {
            x.lie(p, 3);
            x.night(9);
        }
        Due.due("all at the same CELL", x.touch(-1), 21);
        int i = 0;
        for (int a = 0; a < 7; a++) for (int b = a + 1; b < 7; b++) Due.due("touch(" + i + ")", x.touch(i++), 10 * a + b);
        Due.due("touch(20) is the last", x.touch(20), 56);
        Due.due("touch(21)", x.touch(21), Due.NONE);
        x.rise(0);
        Due.due("one up", x.touch(-1), 15);
        Due.due("touch(0), one up", x.touch(0), 12);
    }

    private static void touchNeighbours() {
        Due.says("of whose SHAPES a CELL is side by side, or one above the other, with one of the other's");
        // a small one in the middle, another at c
        int[] want = {0, 1, 0, 1, 1, 1, 0, 1, 0};
        for (int c = 0; c < 9; c++) {
            WingCensus x = Due.told("n3 3;p3;p3;");
            x.lie(0, 4);
            x.night(9);
            x.lie(1, c);
            Due.due("4 and " + c, x.touch(-1), want[c]);
        }
        WingCensus row = Due.told("n3 3;p3;p3;");
        row.lie(0, 2);
        row.lie(1, 3);
        Due.due("the end of a row and the next one's beginning", row.touch(-1), 0);
        WingCensus far = Due.told("n7 2;p0;p0;p0;");
        far.lie(0, 1);
        far.lie(1, 5);
        Due.due("a cell between the wings", far.touch(-1), 0);
        far.lie(2, 10);
        Due.due("one below that both touch", far.touch(-1), 2);
        Due.due("touch(0)", far.touch(0), 2);
        Due.due("touch(1)", far.touch(1), 12);
    }

    // ---- still

    private static void stillBounds() {
        Due.says("STILL: n NIGHTS (0 .. 60) without wind, each by q of a hundred (0 .. 100)");
        WingCensus x = new WingCensus();
        int[] ns = {-1, 61, Integer.MIN_VALUE, Integer.MAX_VALUE};
        int[] qs = {-1, 101, Integer.MIN_VALUE, Integer.MAX_VALUE};
        for (int n : ns) Due.due("still(" + n + ", 50)", x.still(n, 50), Due.OUTSIDE);
        for (int q : qs) Due.due("still(0, " + q + ")", x.still(0, q), Due.OUTSIDE);
        for (int n : ns) for (int q : qs) Due.due("still(" + n + ", " + q + ")", x.still(n, q), Due.OUTSIDE);
        Due.due("still(0, 0)", x.still(0, 0), 1000000000);
        Due.due("still(0, 100)", x.still(0, 100), 1000000000);
        Due.due("still(1, 0)", x.still(1, 0), 0);
        Due.due("still(60, 0)", x.still(60, 0), 0);
        Due.due("still(1, 100)", x.still(1, 100), 1000000000);
        Due.due("still(60, 100)", x.still(60, 100), 1000000000);
        Due.due("still(1, 1)", x.still(1, 1), 10000000);
        Due.due("still(1, 99)", x.still(1, 99), 990000000);
        Due.due("still(59, 99) to still(60, 99)", (int) (x.still(59, 99) * 99L / 100), x.still(60, 99));
    }

    private static void stillCut() {
        Due.says("a BILLION times q / 100 each (cut)");
        WingCensus x = new WingCensus();
        int[] ones = {1000000000, 10000000, 100000, 1000, 10, 0, 0};
        for (int n = 0; n < ones.length; n++) Due.due("still(" + n + ", 1)", x.still(n, 1), ones[n]);
        int[] most = {1000000000, 990000000, 980100000, 970299000, 960596010, 950990049, 941480148};
        for (int n = 0; n < most.length; n++) Due.due("still(" + n + ", 99)", x.still(n, 99), most[n]);
    }

    // ---- what was found

    private static void foundAtMost() {
        Due.says("FOUND (6 at most); FOUND: how much. UNKNOWN, FULL (6)");
        WingCensus x = Due.told("n7 7;");
        for (int i = 1; i <= 5; i++) Due.due("find(0, false), time " + i, x.find(0, false), i);
        Due.due("find(48, true), the sixth", x.find(48, true), 6);
        Due.due("the sixth holds", x.fits(0), 5);
        Due.due("find(48, false), the seventh", x.find(48, false), Due.FULL);
        Due.due("find(49, true), the seventh", x.find(49, true), Due.UNKNOWN);
        Due.due("find(-1, true), the seventh", x.find(-1, true), Due.UNKNOWN);
        Due.due("told(15)", x.told(15), 6);
        Due.due("the seventh does not hold", x.fits(0), 5);
        Due.due("tear()", x.tear(), 6);
        Due.due("find(0, true), the first again", x.find(0, true), 1);
    }

    private static void foundWhere() {
        Due.says("find: UNKNOWN");
        WingCensus x = Due.told("n3 2;r0 0;");
        for (int c : new int[] {-1, 6, Integer.MIN_VALUE, Integer.MAX_VALUE}) {
            Due.due("find(" + c + ", true)", x.find(c, true), Due.UNKNOWN);
            Due.due("find(" + c + ", false)", x.find(c, false), Due.UNKNOWN);
        }
        Due.due("nothing FOUND", x.told(15), 0);
        Due.due("find(0, false): a ROCK", x.find(0, false), 1);
        Due.due("find(5, true): the last cell", x.find(5, true), 2);
        Due.due("find(5, true): again", x.find(5, true), 3);
        Due.due("find without a NORTH", new WingCensus().find(0, true), Due.UNKNOWN);
    }

    private static void fitsAll() {
        Due.says("FITS: pairs (100 times the KIND, and the CELL): how many; the least; KINDS (a SET)");
        int[][] want = {{8, 200, 28}, {198, 1, 31}, {16, 1, 31}, {13, 200, 28}};
        String[] norths = {"n2 2;", "n7 7;", "n3 2;", "n2 3;"};
        for (int i = 0; i < norths.length; i++) {
            for (int k = 0; k < 3; k++) Due.due(norths[i] + " fits(" + k + ")", Due.told(norths[i]).fits(k), want[i][k]);
        }
        WingCensus x = Due.told("n2 2;");
        for (int k : new int[] {-1, 3, Integer.MIN_VALUE, Integer.MAX_VALUE}) {
            Due.due("fits(" + k + ")", x.fits(k), Due.OUTSIDE);
            Due.due("fits(" + k + ") without a NORTH", new WingCensus().fits(k), Due.OUTSIDE);
        }
    }

    private static void nothingFits(String why, WingCensus x) {
        Due.due(why + ": how many", x.fits(0), 0);
        Due.due(why + ": the least", x.fits(1), Due.NONE);
        Due.due(why + ": KINDS", x.fits(2), 0);
        Due.due(why + ": look()", x.look(), Due.NONE);
    }

    private static void fitsNothing() {
        Due.says("FITS: KINDS (a SET; 0); NONE");
        nothingFits("without a NORTH", new WingCensus());
        nothingFits("all rocks", Due.told("n2 2;r0 0;r1 0;r0 1;r1 1;"));
        WingCensus both = Due.told("n3 3;");
        both.find(4, true);
        both.find(4, false);
        nothingFits("dented and not", both);
        WingCensus rock = Due.told("n3 3;r1 1;");
        rock.find(4, true);
        nothingFits("a dented rock", rock);
        WingCensus far = Due.told("n7 7;");
        far.find(0, true);
        far.find(48, true);
        nothingFits("far apart", far);
    }

    private static void fitsOne() {
        Due.says("FITS: by which all that is FOUND is so");
        WingCensus x = Due.told("n7 7;");
        x.find(48, true);
        Due.due("the last cell: how many", x.fits(0), 5);
        Due.due("the last cell: the least", x.fits(1), 47);
        Due.due("the last cell: KINDS", x.fits(2), 31);
        x.find(46, false);
        x.find(47, true);
        Due.due("one wing: how many", x.fits(0), 1);
        Due.due("one wing: the greatest pair that can be", x.fits(1), 447);
        Due.due("one wing: KINDS", x.fits(2), 16);
        Due.due("one fits: look()", x.look(), Due.NONE);
        WingCensus y = Due.told("n2 2;");
        y.find(0, true);
        y.find(1, false);
        y.find(2, false);
        Due.due("small: how many", y.fits(0), 1);
        Due.due("small: at the first cell", y.fits(1), 300);
        Due.due("small: KINDS", y.fits(2), 8);
    }

    private static void fitsBare() {
        Due.says("on a bare field like this (no dents; ROCKS are)");
        WingCensus x = Due.told("n3 3;p3;r1 1;");
        Due.due("with a ROCK", x.fits(0), 18);
        for (int y = 0; y < 3; y++) x.pin(y);
        Due.due("all dented: how many", x.fits(0), 18);
        Due.due("all dented: the least", x.fits(1), 1);
        Due.due("all dented: KINDS", x.fits(2), 29);
    }

    private static void look() {
        Due.says("LOOK: the greater part is least; of like ones the least; NONE: none parts them");
        Due.due("2 by 2: all alike", Due.told("n2 2;").look(), 0);
        WingCensus x = Due.told("n7 7;");
        x.find(41, true);
        x.find(34, false);
        x.find(40, false);
        Due.due("two fit", x.fits(0), 2);
        Due.due("told apart by the last cell", x.look(), 48);
        x.find(48, true);
        Due.due("one fits", x.look(), Due.NONE);
        WingCensus y = Due.told("n2 2;");
        y.find(3, true);
        y.find(2, false);
        // {1 3}, {3}
        Due.due("told apart by 1", y.look(), 1);
        y.find(1, false);
        Due.due("one is left", y.look(), Due.NONE);
        WingCensus z = Due.told("n2 2;");
        z.find(3, true);
        // {1 3}, {3}, {2 3}: 1 and 2 alike
        Due.due("of like ones the least", z.look(), 1);
        WingCensus w = Due.told("n2 2;");
        w.find(3, false);
        // {0 2}, {0}, {1}, {2}, {0 1}: 0 has three of five, 1 and 2 have two
        Due.due("three and two part like two and three", w.look(), 0);
    }

    // ---- the book

    private static void book() {
        Due.says("An entry behind THE BOOK (0 .. 99): how many. OUTSIDE, FULL (20)");
        WingCensus x = Due.told("n2 2;");
        for (int count : new int[] {-1, 100, Integer.MIN_VALUE, Integer.MAX_VALUE}) Due.due("write(" + count + ")", x.write(count), Due.OUTSIDE);
        Due.due("no entry", x.told(16), 0);
        Due.due("write(0)", x.write(0), 1);
        Due.due("write(99)", x.write(99), 2);
        Due.due("write(1)", x.write(1), 3);
        Due.due("write(98)", x.write(98), 4);
        for (int i = 5; i <= 19; i++) x.write(0);
        Due.due("nineteen", x.told(16), 19);
        Due.due("write, the twentieth", x.write(0), 20);
        Due.due("write, the twenty-first", x.write(0), Due.FULL);
        Due.due("write(-1), the twenty-first", x.write(-1), Due.OUTSIDE);
        Due.due("write(100), the twenty-first", x.write(100), Due.OUTSIDE);
        Due.due("twenty", x.told(16), 20);
        Due.due("write without a NORTH", new WingCensus().write(0), 1);
    }

    private static void judge() {
        Due.says("WRONG: the first that is otherwise than COUNT now; NONE");
        WingCensus x = Due.told("n2 2;p3;");
        Due.due("no BOOK", x.judge(), Due.NONE);
        Due.due("no BOOK, no NORTH", new WingCensus().judge(), Due.NONE);
        for (int i = 0; i < 19; i++) x.write(0);
        Due.due("all are right", x.judge(), Due.NONE);
        x.write(1);
        Due.due("the last is wrong", x.judge(), 19);
        x.write(5);
        x.lie(0, 0);
        Due.due("the first is wrong", x.judge(), 0);
        x.tear();
        x.write(1);
        x.write(99);
        Due.due("the second is wrong", x.judge(), 1);
        x.rise(0);
        Due.due("COUNT, not TRUE", x.judge(), 1);
    }

    private static void tear() {
        Due.says("Nothing FOUND, no BOOK: how much both had");
        WingCensus x = Due.told("n2 2;p3;");
        Due.due("nothing", x.tear(), 0);
        x.find(0, true);
        Due.due("FOUND alone", x.tear(), 1);
        x.write(0);
        Due.due("an entry alone", x.tear(), 1);
        for (int i = 0; i < 7; i++) x.find(0, true);
        for (int i = 0; i < 21; i++) x.write(9);
        Due.due("both full", x.tear(), 26);
        Due.due("told(15)", x.told(15), 0);
        Due.due("told(16)", x.told(16), 0);
        Due.due("fits(0)", x.fits(0), 8);
        Due.due("judge()", x.judge(), Due.NONE);
        Due.due("find, the first again", x.find(0, true), 1);
        Due.due("write, the first again", x.write(9), 1);
        Due.due("without a NORTH", new WingCensus().tear(), 0);
    }

    // ---- images

    private static void seed() {
        Due.says("THE SEED becomes v (0 .. 2147483647): what it was. OUTSIDE");
        WingCensus x = new WingCensus();
        Due.due("0 at first", x.seed(2147483647), 0);
        Due.due("seed(-1)", x.seed(-1), Due.OUTSIDE);
        Due.due("seed(MIN)", x.seed(Integer.MIN_VALUE), Due.OUTSIDE);
        Due.due("seed(2147483646)", x.seed(2147483646), 2147483647);
        Due.due("seed(1)", x.seed(1), 2147483646);
        Due.due("seed(0)", x.seed(0), 1);
        Due.due("seed(0) again", x.seed(0), 0);
    }

    private static void imagesThatThereAre() {
        Due.says("IMAGES 0, 1; UNKNOWN, NOT: it was not kept");
        WingCensus x = Due.told("n2 2;p3;");
        for (int i : new int[] {-1, 2, Integer.MIN_VALUE, Integer.MAX_VALUE}) {
            Due.due("keep(" + i + ")", x.keep(i), Due.UNKNOWN);
            Due.due("goBack(" + i + ")", x.goBack(i), Due.UNKNOWN);
        }
        Due.due("goBack(0)", x.goBack(0), Due.NOT);
        Due.due("goBack(1)", x.goBack(1), Due.NOT);
        Due.due("keep(1)", x.keep(1), 1);
        Due.due("goBack(0), the other is kept", x.goBack(0), Due.NOT);
        Due.due("goBack(1)", x.goBack(1), 1);
        Due.due("keep(0)", x.keep(0), 1);
        Due.due("goBack(0)", x.goBack(0), 1);
        Due.due("goBack(0) again", x.goBack(0), 1);
    }

    private static void imagesKeep() {
        Due.says("IMAGES 0, 1 keep all of section 2 (WIND, too), THE SEED");
        WingCensus x = Due.told("n3 3;p3;p3;p3;p3;p3;p3;p3;w4;");
        x.lie(6, 8);
        x.lie(0, 0);
        x.night(3);
        x.seed(2147483647);
        x.keep(1);
        Due.says("keep: nothing can be undone then");
        Due.due("told(17)", x.told(17), 0);
        Due.due("undo(1)", x.undo(1), Due.NOT);
        x.rise(6);
        x.lie(0, 4);
        x.night(1);
        x.wind(2);
        x.seed(3);
        x.find(0, true);
        x.write(2);
        x.feed('n');
        Due.due("goBack(1)", x.goBack(1), 1);
        Due.says("What is so becomes IMAGE i");
        Due.due("person 6", x.person(6, 1), 8);
        Due.due("person 0", x.person(0, 1), 0);
        Due.due("NIGHTS", x.told(5), 3);
        Due.due("WIND", x.told(6), 4);
        Due.dueDents("dents", x, "300/000/003");
        Due.due("THE SEED", x.seed(9), 2147483647);
        Due.says("goBack: nothing can be undone then");
        Due.due("told(17)", x.told(17), 0);
        Due.due("undo(1)", x.undo(1), Due.NOT);
        Due.says("IMAGES keep nothing else");
        Due.due("FOUND", x.told(15), 1);
        Due.due("THE BOOK", x.told(16), 1);
        Due.due("THE TEXT", x.told(4), 1);
    }

    private static void imagesAreOneEach() {
        Due.says("IMAGE i becomes what is so");
        WingCensus x = Due.told("n2 2;");
        x.keep(0);
        x.hare(3);
        x.keep(1);
        x.hare(3);
        x.goBack(0);
        Due.dueDents("image 0", x, "00/00");
        x.hare(0);
        x.undo(1);
        x.hare(1);
        x.goBack(1);
        Due.dueDents("image 1", x, "00/02");
        x.night(1);
        x.keep(0);
        x.goBack(1);
        Due.due("image 1: NIGHTS", x.told(5), 0);
        x.goBack(0);
        Due.due("image 0 anew: NIGHTS", x.told(5), 1);
        Due.dueDents("image 0 anew", x, "00/01");
        Due.says("keep(), goBack() without a NORTH are refused by nothing");
        WingCensus none = new WingCensus();
        none.seed(5);
        Due.due("keep(0)", none.keep(0), 1);
        none.seed(6);
        Due.due("goBack(0)", none.goBack(0), 1);
        Due.due("THE SEED", none.seed(0), 5);
        Due.due("goBack(1)", none.goBack(1), Due.NOT);
    }
}
