/** Promises 25 to 30: find, fits, look, write, judge, tear. */
public final class FoundTest {
    public static void main(String[] args) {
        find();
        fits();
        fitsByKind();
        look();
        write();
        judge();
        tear();
        Due.end();
    }

    private static void find() {
        WingCensus x = Due.told("n3 3;r0 0;");
        Due.due("find(-1, true)", x.find(-1, true), Due.UNKNOWN);
        Due.due("find(9, true)", x.find(9, true), Due.UNKNOWN);
        for (int i = 1; i <= 6; i++) Due.due("find, time " + i, x.find(8, i != 6), i);
        Due.due("find, time 7", x.find(8, true), Due.FULL);
        Due.due("find(9, true), full", x.find(9, true), Due.UNKNOWN);
        Due.due("told(15)", x.told(15), 6);
        Due.due("fits(0): the sixth is otherwise", x.fits(0), 0);
        Due.due("fits(2)", x.fits(2), 0);
        Due.due("told(17): no deed", x.told(17), 0);
    }

    private static void fits() {
        WingCensus x = Due.told("n3 3;p3;");
        Due.due("fits(-1)", x.fits(-1), Due.OUTSIDE);
        Due.due("fits(3)", x.fits(3), Due.OUTSIDE);
        // kinds: 3, 2, 6, 9, 6 places
        Due.due("fits(0)", x.fits(0), 26);
        Due.due("fits(1)", x.fits(1), 1);
        Due.due("fits(2)", x.fits(2), 31);
        x.lie(0, 4);
        Due.due("fits(0): on a bare field", x.fits(0), 26);
        x.find(0, true);
        // 0 at 1, 2 at 0, 3 at 0, 4 at 0
        Due.due("fits(0), the corner", x.fits(0), 4);
        Due.due("fits(1), the corner", x.fits(1), 1);
        Due.due("fits(2), the corner", x.fits(2), 29);
        x.find(2, false);
        Due.due("fits(0), not 2", x.fits(0), 3);
        Due.due("fits(1), not 2", x.fits(1), 200);
        Due.due("fits(2), not 2", x.fits(2), 28);
        x.find(3, true);
        Due.due("fits(0), 3 too", x.fits(0), 1);
        Due.due("fits(1), 3 too", x.fits(1), 200);
        Due.due("fits(2), 3 too", x.fits(2), 4);
        x.find(3, false);
        Due.due("fits(0), nothing", x.fits(0), 0);
        Due.due("fits(1), nothing", x.fits(1), Due.NONE);
        Due.due("fits(2), nothing", x.fits(2), 0);
    }

    private static void fitsByKind() {
        // a rock in the middle: nobody broad in that row, nobody with child above or on it
        WingCensus x = Due.told("n3 3;r1 1;");
        // 0: 1, 7; 1: none; 2: 0, 2, 3, 5; 3: eight; 4: 0, 1, 6, 7
        Due.due("fits(0), a rock", x.fits(0), 18);
        Due.due("fits(2), a rock", x.fits(2), 29);
        x.find(4, true);
        Due.due("fits(0), the rock dented", x.fits(0), 0);
        x.tear();
        x.find(4, false);
        Due.due("fits(0), the rock not dented", x.fits(0), 18);
        WingCensus y = Due.told("n7 7;");
        y.find(41, true);
        y.find(47, true);
        y.find(48, true);
        Due.due("fits(0), a smith", y.fits(0), 0);
        y.tear();
        y.find(40, true);
        y.find(46, true);
        Due.due("fits(1), a smith", y.fits(1), 147);
        Due.due("fits(2), a smith", y.fits(2), 2);
        y.tear();
        y.find(48, true);
        y.find(47, false);
        y.find(41, false);
        Due.due("fits(1), a small one", y.fits(1), 348);
        Due.due("fits(0), a small one", y.fits(0), 1);
    }

    private static void look() {
        WingCensus x = Due.told("n3 3;");
        x.find(0, true);
        // {0 1 2}, {0 3}, {0}, {0 1}: the cell 1 has two of four, 2 and 3 one of four
        Due.due("look()", x.look(), 1);
        x.find(1, false);
        // {0 3}, {0}
        Due.due("look(), two", x.look(), 3);
        x.find(3, false);
        Due.due("look(), one", x.look(), Due.NONE);
        x.find(0, false);
        Due.due("look(), none", x.look(), Due.NONE);
        x.tear();
        // {0 1 2}, {1 3 4 5}, {1}, {1 2}, {0 1}, {1 4}: 0, 2, 4 have two of six each
        x.find(1, true);
        Due.due("fits(0)", x.fits(0), 6);
        Due.due("look(): of like ones the least", x.look(), 0);
        x.find(0, false);
        // {1 3 4 5}, {1}, {1 2}, {1 4}: 4 has two of four
        Due.due("look(): the best one", x.look(), 4);
    }

    private static void write() {
        WingCensus x = new WingCensus();
        Due.due("write(-1)", x.write(-1), Due.OUTSIDE);
        Due.due("write(100)", x.write(100), Due.OUTSIDE);
        Due.due("write(0)", x.write(0), 1);
        Due.due("write(99)", x.write(99), 2);
        for (int i = 3; i <= 20; i++) Due.due("write, time " + i, x.write(0), i);
        Due.due("write, time 21", x.write(0), Due.FULL);
        Due.due("write(100), full", x.write(100), Due.OUTSIDE);
        Due.due("told(16)", x.told(16), 20);
        Due.due("judge()", x.judge(), 1);
    }

    private static void judge() {
        WingCensus x = Due.told("n4 2;p4;");
        Due.due("judge(), no book", x.judge(), Due.NONE);
        x.write(0);
        x.write(0);
        x.write(2);
        x.write(0);
        Due.due("judge()", x.judge(), 2);
        x.lie(0, 0);
        Due.due("judge(), count is 2", x.judge(), 0);
        x.tear();
        for (int i = 0; i < 20; i++) x.write(2);
        Due.due("judge(), all right", x.judge(), Due.NONE);
        x.night(7);
        Due.due("judge(), blurred", x.judge(), 0);
    }

    private static void tear() {
        WingCensus x = Due.told("n3 3;");
        Due.due("tear(), nothing", x.tear(), 0);
        x.find(0, true);
        x.find(8, true);
        x.write(1);
        x.write(2);
        x.write(3);
        Due.due("tear()", x.tear(), 5);
        Due.due("told(15)", x.told(15), 0);
        Due.due("told(16)", x.told(16), 0);
        Due.due("fits(0)", x.fits(0), 26);
        Due.due("judge()", x.judge(), Due.NONE);
        Due.due("tear() again", x.tear(), 0);
        Due.due("find then", x.find(4, true), 1);
        Due.due("write then", x.write(4), 1);
    }
}
