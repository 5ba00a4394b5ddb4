/** Promises 8 to 17: lie, rise, night, thaw, snow, hare, pin, wind, drift, undo. */
public final class DeedsTest {
    public static void main(String[] args) {
        lie();
        lieByKind();
        rise();
        night();
        nightByWind();
        nightFull();
        thaw();
        snow();
        hare();
        pin();
        wind();
        drift();
        driftByDraws();
        undo();
        undoEachKind();
        refusedIsNoDeed();
        Due.end();
    }

    private static void lie() {
        WingCensus x = Due.told("n4 3;p0;p3;r3 2;");
        Due.due("lie(-1, 1)", x.lie(-1, 1), Due.UNKNOWN);
        Due.due("lie(2, 1)", x.lie(2, 1), Due.UNKNOWN);
        Due.due("lie(0, -1)", x.lie(0, -1), Due.UNKNOWN);
        Due.due("lie(0, 12)", x.lie(0, 12), Due.UNKNOWN);
        Due.due("lie(0, 0): no left", x.lie(0, 0), Due.NOT);
        Due.due("lie(0, 3): no right", x.lie(0, 3), Due.NOT);
        Due.due("lie(0, 10): a rock", x.lie(0, 10), Due.NOT);
        Due.due("lie(1, 11): a rock", x.lie(1, 11), Due.NOT);
        Due.due("lie(0, 5)", x.lie(0, 5), 3);
        Due.dueDents("lie(0, 5)", x, "0000/9990/0000");
        Due.due("lie(1, 6): dented", x.lie(1, 6), Due.NOT);
        Due.due("lie(0, 6): by oneself", x.lie(0, 6), Due.NOT);
        Due.due("still at 5", x.person(0, 1), 5);
        Due.due("lie(0, 9)", x.lie(0, 9), 3);
        Due.due("at 9 now", x.person(0, 1), 9);
        Due.dueDents("the dents stay", x, "0000/9990/9990");
        Due.due("who lies", x.told(7), 1);
        Due.due("two deeds", x.told(17), 2);
        x.hare(0);
        Due.due("lie(1, 0): dented by 2", x.lie(1, 0), Due.NOT);
        x.night(1);
        Due.due("lie(1, 0): dented by 1", x.lie(1, 0), Due.NOT);
        x.night(1);
        Due.due("lie(1, 0): bare", x.lie(1, 0), 1);
    }

    private static void lieByKind() {
        String[] want = {"0000/9990/0000/0000", "0900/9990/0000/0000", "0000/0900/0900/0000", "0000/0900/0000/0000", "0000/0990/0000/0000"};
        int[] size = {3, 4, 2, 1, 2};
        for (int kind = 0; kind < 5; kind++) {
            WingCensus x = Due.told("n4 4;p" + kind + ";");
            Due.due("lie(0, 5), kind " + kind, x.lie(0, 5), size[kind]);
            Due.dueDents("lie(0, 5), kind " + kind, x, want[kind]);
        }
        // whose shape would leave the field, at the four corners: bit 0 for the cell 0, 1 for 3, 2 for 12, 3 for 15
        int[] corners = {0, 0, 3, 15, 5};
        int[] cells = {0, 3, 12, 15};
        for (int kind = 0; kind < 5; kind++) {
            for (int k = 0; k < 4; k++) {
                WingCensus x = Due.told("n4 4;p" + kind + ";");
                Due.due("lie(0, " + cells[k] + "), kind " + kind, x.lie(0, cells[k]), (corners[kind] >> k & 1) == 1 ? size[kind] : Due.NOT);
            }
        }
        WingCensus smith = Due.told("n4 4;p1;");
        Due.due("a smith in the first row", smith.lie(0, 1), Due.NOT);
        Due.due("a smith in the last row", smith.lie(0, 14), 4);
    }

    private static void rise() {
        WingCensus x = Due.told("n3 3;p0;p3;");
        Due.due("rise(-1)", x.rise(-1), Due.UNKNOWN);
        Due.due("rise(2)", x.rise(2), Due.UNKNOWN);
        Due.due("rise(0): lies nowhere", x.rise(0), Due.NOT);
        x.lie(0, 7);
        Due.due("rise(0)", x.rise(0), 7);
        Due.dueDents("the dents stay", x, "000/000/999");
        Due.due("lies nowhere", x.person(0, 1), Due.NONE);
        Due.due("rise(0) again", x.rise(0), Due.NOT);
        x.lie(1, 0);
        Due.due("rise(1): cell 0", x.rise(1), 0);
    }

    private static void night() {
        WingCensus x = Due.told("n3 3;p4;");
        Due.due("night(0)", x.night(0), Due.OUTSIDE);
        Due.due("night(21)", x.night(21), Due.OUTSIDE);
        Due.due("night(-1)", x.night(-1), Due.OUTSIDE);
        x.lie(0, 3);
        x.hare(8);
        Due.due("night(1)", x.night(1), 2);
        Due.dueDents("night(1)", x, "000/880/001");
        Due.due("nights", x.told(5), 1);
        Due.due("night(2)", x.night(2), 2);
        Due.dueDents("night(2)", x, "000/660/000");
        Due.due("night(4)", x.night(4), 0);
        Due.dueDents("night(4)", x, "000/220/000");
        Due.due("night(20)", x.night(20), 0);
        Due.dueDents("night(20)", x, "000/000/000");
        Due.due("nights", x.told(5), 27);
        Due.due("who lies stays", x.person(0, 1), 3);
    }

    private static void nightByWind() {
        // a smith in the middle, a rock to the left and one below him
        String[] want = {"0000000/0008000/0088800/0000000/0000000", "0000000/0007000/0088800/0000000/0000000",
            "0000000/0007000/0078700/0000000/0000000", "0000000/0007000/0088700/0000000/0000000",
            "0000000/0008000/0078700/0000000/0000000"};
        for (int wind = 0; wind < 5; wind++) {
            WingCensus x = Due.told("n7 5;p1;w" + wind + ";r1 2;r3 3;");
            x.lie(0, 17);
            x.night(1);
            Due.dueDents("a night with the wind " + wind, x, want[wind]);
        }
        // at the edges: the cell from which it comes is not there
        String[] edges = {"888/888/888", "788/788/788", "777/888/888", "887/887/887", "888/888/777"};
        for (int wind = 0; wind < 5; wind++) {
            WingCensus x = Due.told("n3 3;p0;p0;p0;w" + wind + ";");
            x.lie(0, 1);
            x.lie(1, 4);
            x.lie(2, 7);
            x.night(1);
            Due.dueDents("all, wind " + wind, x, edges[wind]);
        }
        // what is dented ahead of the night shelters, though it is gone by it
        WingCensus x = Due.told("n3 2;p4;w1;");
        x.lie(0, 1);
        x.night(4);
        Due.dueDents("four nights", x, "015/000");
        x.night(1);
        Due.dueDents("the fifth", x, "004/000");
        x.night(1);
        Due.dueDents("the sixth", x, "002/000");
        // the cell 3 does not shelter the cell 4 of the next row
        WingCensus y = Due.told("n4 2;p3;p3;w1;");
        y.lie(0, 3);
        y.lie(1, 4);
        y.night(1);
        Due.dueDents("across the edge", y, "0007/7000");
    }

    private static void nightFull() {
        WingCensus x = Due.told("n2 2;p3;");
        for (int i = 0; i < 450; i++) x.night(20);
        Due.due("nights", x.told(5), 9000);
        x.keep(0);
        Due.due("drift(1) at 9000", x.drift(1) >= 0 ? 0 : 1, 0);
        Due.due("nights", x.told(5), 9001);
        Due.due("night(1) at 9001", x.night(1), Due.FULL);
        Due.due("drift(1) at 9001", x.drift(1), Due.FULL);
        Due.due("night(21) at 9001", x.night(21), Due.OUTSIDE);
        Due.due("drift(0) at 9001", x.drift(0), Due.OUTSIDE);
        Due.due("undo(1)", x.undo(1), 9000);
        Due.due("night(20) at 9000", x.night(20), 0);
        Due.due("nights", x.told(5), 9020);
        Due.due("night(1) at 9020", x.night(1), Due.FULL);
        Due.due("willCount(20) at 9020", x.willCount(20), 0);
        Due.due("goBack(0)", x.goBack(0), 1);
        Due.due("night(1) at 9000 again", x.night(1), 0);
    }

    private static WingCensus allDepths() {
        WingCensus x = Due.told("n5 2;");
        for (int c = 1; c < 10; c++) for (int i = 0; i < (c + 1) / 2; i++) x.hare(c);
        Due.dueDents("by hares", x, "02244/66889");
        return x;
    }

    private static void thaw() {
        WingCensus x = allDepths();
        Due.due("thaw()", x.thaw(), 2);
        Due.dueDents("thaw()", x, "00011/33556");
        Due.due("thaw() again", x.thaw(), 1);
        Due.dueDents("thaw() again", x, "00000/00223");
        Due.due("nights", x.told(5), 0);
    }

    private static void snow() {
        WingCensus x = allDepths();
        Due.due("snow()", x.snow(), 2);
        Due.dueDents("snow()", x, "00000/55778");
        Due.due("snow() again", x.snow(), 2);
        Due.dueDents("snow() again", x, "00000/44667");
        Due.due("snow() once more", x.snow(), 1);
        Due.dueDents("snow() once more", x, "00000/00556");
        Due.due("nights", x.told(5), 0);
    }

    private static void hare() {
        WingCensus x = Due.told("n3 3;p3;r2 2;");
        Due.due("hare(-1)", x.hare(-1), Due.UNKNOWN);
        Due.due("hare(9)", x.hare(9), Due.UNKNOWN);
        Due.due("hare(8): a rock", x.hare(8), Due.NOT);
        int[] want = {2, 4, 6, 8, 9, 9};
        for (int i = 0; i < want.length; i++) Due.due("hare(0), time " + i, x.hare(0), want[i]);
        Due.due("deeds", x.told(17), 6);
        Due.dueDents("hares", x, "900/000/000");
    }

    private static void pin() {
        WingCensus x = Due.told("n4 3;p3;r2 1;");
        Due.due("pin(-1)", x.pin(-1), Due.OUTSIDE);
        Due.due("pin(3)", x.pin(3), Due.OUTSIDE);
        x.lie(0, 4);
        x.hare(7);
        Due.due("pin(1)", x.pin(1), 3);
        Due.dueDents("pin(1)", x, "0000/9505/0000");
        Due.due("pin(0)", x.pin(0), 3);
        Due.dueDents("pin(0)", x, "5555/9505/0000");
        Due.due("pin(2)", x.pin(2), 4);
        Due.dueDents("pin(2)", x, "5555/9505/5555");
        x.night(1);
        x.pin(2);
        Due.dueDents("pin(2) again", x, "4444/8404/5555");
    }

    private static void wind() {
        WingCensus x = Due.told("n3 3;p3;w2;");
        Due.due("wind(-1)", x.wind(-1), Due.OUTSIDE);
        Due.due("wind(5)", x.wind(5), Due.OUTSIDE);
        Due.due("wind(4)", x.wind(4), 2);
        Due.due("told(6)", x.told(6), 4);
        Due.due("wind(0)", x.wind(0), 4);
        Due.due("wind(0) again", x.wind(0), 0);
        Due.due("deeds", x.told(17), 3);
    }

    /** What a draw is, as the document says it. */
    private static long seed;

    private static int draw(int n) {
        seed = (seed * 1103515245L + 12345L) % 2147483648L;
        return (int) (seed / 65536 % n);
    }

    /** The least seed from which the next draws (of 8, then of the others) are these. */
    private static int seedFor(int[] of, int[] want) {
        for (int v = 0; v < 10000000; v++) {
            seed = v;
            boolean good = true;
            for (int i = 0; good && i < of.length; i++) good = draw(of[i]) == want[i];
            if (good) return v;
        }
        return 0;
    }

    private static void drift() {
        WingCensus x = Due.told("n3 3;p3;p0;w1;r0 0;");
        Due.due("drift(0)", x.drift(0), Due.OUTSIDE);
        Due.due("drift(21)", x.drift(21), Due.OUTSIDE);
        // a person lies, then the night
        x.seed(seedFor(new int[] {8, 2, 9}, new int[] {0, 1, 4}));
        Due.due("drift(1): lies", x.drift(1), 1);
        Due.dueDents("lies", x, "000/788/000");
        Due.due("at 4", x.person(1, 1), 4);
        Due.due("seed then", x.seed(0), (int) seed);
        // somebody who lies elsewhere cannot lie there: stays where he is
        x.seed(seedFor(new int[] {8, 2, 9}, new int[] {0, 1, 3}));
        x.drift(1);
        Due.due("still at 4", x.person(1, 1), 4);
        Due.dueDents("only the night", x, "000/577/000");
        // who lies already gets up
        x.seed(seedFor(new int[] {8, 2, 9}, new int[] {0, 1, 7}));
        x.drift(1);
        Due.due("at 7 now", x.person(1, 1), 7);
        Due.dueDents("lies anew", x, "000/366/788");
        // a hare, and one on the rock
        x.seed(seedFor(new int[] {8, 9}, new int[] {1, 2}));
        x.drift(1);
        Due.dueDents("a hare", x, "000/155/577");
        x.seed(seedFor(new int[] {8, 9}, new int[] {1, 0}));
        x.drift(1);
        Due.dueDents("no hare on the rock", x, "000/044/366");
        // snow
        x.seed(seedFor(new int[] {8}, new int[] {2}));
        Due.due("drift(1): snow", x.drift(1), 2);
        Due.dueDents("snow", x, "000/000/034");
        // the wind turns ahead of the night
        x.seed(seedFor(new int[] {8, 5}, new int[] {3, 3}));
        x.drift(1);
        Due.due("wind", x.told(6), 3);
        Due.dueDents("the wind turns", x, "000/000/022");
        // nothing but a night
        for (int k = 4; k < 8; k++) {
            x.seed(seedFor(new int[] {8}, new int[] {k}));
            x.drift(1);
            Due.due("seed by " + k, x.seed(0), (int) seed);
            Due.due("wind by " + k, x.told(6), 3);
        }
        Due.dueDents("nights alone", x, "000/000/000");
        Due.due("nights", x.told(5), 11);
        Due.due("deeds", x.told(17), 11);
    }

    private static void driftByDraws() {
        WingCensus none = Due.told("n3 3;");
        none.seed(seedFor(new int[] {8}, new int[] {0}));
        Due.due("drift(1) without people", none.drift(1), 0);
        Due.due("one draw only", none.seed(0), (int) seed);
        WingCensus x = Due.told("n3 3;");
        x.seed(2147483647);
        seed = 2147483647;
        x.drift(1);
        Due.due("a draw of 8 from the greatest seed: a hare", draw(8), 1);
        Due.due("its seed", (int) seed, 1043980748);
        Due.due("where it was", x.cell(draw(9), 0), 1);
        Due.due("the seed then", x.seed(0), (int) seed);
        WingCensus y = Due.told("n5 5;p0;p1;p2;p3;p4;");
        WingCensus z = Due.told("n5 5;p0;p1;p2;p3;p4;");
        for (int i = 0; i < 20; i++) y.drift(1);
        z.drift(20);
        Due.dueSame("20 at once", Due.all(z), Due.all(y));
    }

    private static void undo() {
        WingCensus x = Due.told("n3 3;p3;");
        Due.due("undo(0)", x.undo(0), Due.OUTSIDE);
        Due.due("undo(31)", x.undo(31), Due.OUTSIDE);
        Due.due("undo(1): nothing", x.undo(1), Due.NOT);
        x.hare(0);
        x.night(3);
        Due.due("deeds", x.told(17), 4);
        Due.due("undo(5)", x.undo(5), Due.NOT);
        Due.due("undo(1)", x.undo(1), 2);
        Due.due("deeds", x.told(17), 3);
        Due.due("undo(3)", x.undo(3), 0);
        Due.dueDents("all undone", x, "000/000/000");
        Due.due("undo(1): nothing again", x.undo(1), Due.NOT);
        for (int i = 0; i < 4; i++) x.hare(i);
        x.night(20);
        x.night(7);
        Due.due("30 are kept", x.told(17), 30);
        Due.due("undo(30)", x.undo(30), 0);
        Due.dueDents("one hare stays", x, "200/000/000");
        Due.due("no deeds", x.told(17), 0);
        x.night(20);
        x.night(20);
        x.night(20);
        Due.due("undo(30) of 60", x.undo(30), 30);
        x.hare(8);
        Due.due("one deed", x.told(17), 1);
        Due.due("undo(1)", x.undo(1), 30);
        Due.due("undo(1)", x.undo(1), Due.NOT);
        x.find(0, true);
        x.write(4);
        x.hare(8);
        x.write(5);
        x.undo(1);
        Due.due("found stays", x.told(15), 1);
        Due.due("the book stays", x.told(16), 2);
    }

    private static void undoEachKind() {
        WingCensus x = Due.told("n4 3;p0;p2;w3;r3 2;");
        x.lie(0, 2);
        x.night(2);
        x.seed(5);
        String[] before = new String[12];
        for (int k = 0; k < 12; k++) {
            before[k] = Due.deedsLeft(x);
            switch (k) {
                case 0 -> x.lie(1, 4);
                case 1 -> x.lie(0, 6);
                case 2 -> x.rise(1);
                case 3 -> x.night(1);
                case 4 -> x.thaw();
                case 5 -> x.snow();
                case 6 -> x.hare(10);
                case 7 -> x.pin(2);
                case 8 -> x.wind(1);
                case 9 -> x.wind(1);
                case 10 -> x.lie(1, 99);
                default -> x.drift(1);
            }
        }
        int seed = x.seed(9);
        Due.due("the seed is another", seed == 5 ? 0 : 1, 1);
        for (int k = 11; k >= 0; k--) {
            if (k == 10) continue;
            x.undo(1);
            Due.dueSame("undone to " + k, Due.deedsLeft(x), before[k]);
        }
        Due.due("the seed stays", x.seed(0), 9);
    }

    private static void refusedIsNoDeed() {
        WingCensus x = Due.told("n3 3;p3;p0;r1 1;");
        x.lie(0, 0);
        String before = Due.all(x);
        x.lie(0, 0);
        x.lie(1, 4);
        x.lie(0, 9);
        x.rise(1);
        x.rise(2);
        x.night(0);
        x.night(21);
        x.hare(4);
        x.hare(9);
        x.pin(3);
        x.wind(5);
        x.drift(0);
        x.undo(2);
        x.undo(31);
        x.goBack(0);
        x.goBack(2);
        x.keep(2);
        x.keep(-1);
        x.seed(-1);
        Due.dueSame("behind refusals", Due.all(x), before);
        Due.due("the seed", x.seed(0), 0);
    }
}
