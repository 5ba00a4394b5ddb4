/** The edges of the field and of the deeds: the document's section 2, promises 5 to 17, sentence by sentence. */
public final class FieldEdgesTest {
    public static void main(String[] args) {
        shapesThatAreThere();
        shapesAndRocks();
        shapesAndDents();
        lies();
        liesAgain();
        getsUp();
        nightByDents();
        nightAtEdges();
        nightBehindRocksAndDents();
        nightsOfACall();
        nightsAbove9000();
        thaw();
        snow();
        hare();
        pin();
        pinRows();
        winds();
        seen();
        countedAs();
        groups();
        greatest();
        forged();
        truth();
        farOut();
        bare();
        toldBounds();
        cell();
        person();
        drawOf8();
        driftLies();
        driftHareAndSnow();
        driftWind();
        driftSeed();
        undoBounds();
        deedsKept();
        deedsSince();
        deedsEach();
        seedStays();
        Due.end();
    }

    // ---- shapes

    private static long cells(int... all) {
        long set = 0;
        for (int c : all) set |= 1L << c;
        return set;
    }

    private static void canLieAt(String north, int kind, long where) {
        WingCensus x = Due.told(north + "p" + kind + ";");
        int many = x.told(0) * x.told(1);
        int size = new int[] {3, 4, 2, 1, 2}[kind];
        for (int c = 0; c < many; c++) {
            boolean can = (where >> c & 1) != 0;
            WingCensus y = Due.told(north + "p" + kind + ";");
            Due.due(north + " kind " + kind + " lie(0, " + c + ")", y.lie(0, c), can ? size : Due.NOT);
            Due.due(north + " kind " + kind + " at " + c, y.person(0, 1), can ? c : Due.NONE);
        }
        Due.due(north + " kind " + kind + " canLie(0, 0)", x.canLie(0, 0), Long.bitCount(where));
        Due.due(north + " kind " + kind + " canLie(0, 1)", x.canLie(0, 1), where == 0 ? Due.NONE : Long.numberOfTrailingZeros(where));
    }

    private static void shapesThatAreThere() {
        Due.says("A PERSON can LIE at a CELL, if all CELLS of the SHAPE are there");
        canLieAt("n2 2;", 0, 0);
        canLieAt("n2 2;", 1, 0);
        canLieAt("n2 2;", 2, cells(0, 1));
        canLieAt("n2 2;", 3, cells(0, 1, 2, 3));
        canLieAt("n2 2;", 4, cells(0, 2));
        canLieAt("n3 2;", 0, cells(1, 4));
        canLieAt("n3 2;", 1, cells(4));
        canLieAt("n3 2;", 2, cells(0, 1, 2));
        canLieAt("n3 2;", 3, cells(0, 1, 2, 3, 4, 5));
        canLieAt("n3 2;", 4, cells(0, 1, 3, 4));
        canLieAt("n2 3;", 0, 0);
        canLieAt("n2 3;", 1, 0);
        canLieAt("n2 3;", 2, cells(0, 1, 2, 3));
        canLieAt("n2 3;", 3, cells(0, 1, 2, 3, 4, 5));
        canLieAt("n2 3;", 4, cells(0, 2, 4));
        WingCensus x = Due.told("n7 7;p0;p1;p2;p3;p4;");
        int[] many = {35, 30, 42, 49, 42};
        for (int p = 0; p < 5; p++) Due.due("canLie(" + p + ", 0), 7 by 7", x.canLie(p, 0), many[p]);
        Due.due("lie(3, 48): the last cell", x.lie(3, 48), 1);
        Due.due("lie(1, 45): its left, its right, above", x.lie(1, 45), 4);
    }

    private static void shapesAndRocks() {
        Due.says("can LIE at a CELL, if .. no ROCKS");
        // in the middle of 3 by 3: the cells of each kind's shape
        long[] shape = {cells(3, 4, 5), cells(1, 3, 4, 5), cells(4, 7), cells(4), cells(4, 5)};
        for (int kind = 0; kind < 5; kind++) {
            for (int c = 0; c < 9; c++) {
                boolean within = (shape[kind] >> c & 1) != 0;
                WingCensus x = Due.told("n3 3;p" + kind + ";r" + c % 3 + " " + c / 3 + ";");
                Due.due("kind " + kind + ", a rock at " + c + ": lie(0, 4)", x.lie(0, 4), within ? Due.NOT : Long.bitCount(shape[kind]));
            }
        }
    }

    private static void shapesAndDents() {
        Due.says("can LIE at a CELL, if .. not DENTED");
        long[] shape = {cells(3, 4, 5), cells(1, 3, 4, 5), cells(4, 7), cells(4), cells(4, 5)};
        for (int kind = 0; kind < 5; kind++) {
            for (int c = 0; c < 9; c++) {
                boolean within = (shape[kind] >> c & 1) != 0;
                WingCensus x = Due.told("n3 3;p" + kind + ";");
                x.hare(c);
                x.night(1);
                Due.due("kind " + kind + ", " + c + " dented by 1: lie(0, 4)", x.lie(0, 4), within ? Due.NOT : Long.bitCount(shape[kind]));
                if (!within) continue;
                x.night(1);
                Due.due("kind " + kind + ", " + c + " bare again: lie(0, 4)", x.lie(0, 4), Long.bitCount(shape[kind]));
            }
        }
    }

    private static void lies() {
        Due.says("all CELLS of the SHAPE are DENTED by 9");
        String[] want = {"000/999/000", "090/999/000", "000/090/090", "000/090/000", "000/099/000"};
        for (int kind = 0; kind < 5; kind++) {
            WingCensus x = Due.told("n3 3;p" + kind + ";");
            x.lie(0, 4);
            Due.dueDents("kind " + kind, x, want[kind]);
        }
    }

    private static void liesAgain() {
        Due.says("LIES (who lies already gets up)");
        WingCensus x = Due.told("n3 3;p3;p3;");
        x.lie(0, 0);
        Due.due("lie(0, 0) again: dented", x.lie(0, 0), Due.NOT);
        Due.due("still there", x.person(0, 1), 0);
        Due.due("lie(0, 8)", x.lie(0, 8), 1);
        Due.due("there now", x.person(0, 1), 8);
        Due.due("nobody at 0", x.cell(0, 3), Due.NONE);
        Due.dueDents("the dents stay", x, "900/000/009");
        Due.due("one lies", x.told(7), 1);
        x.night(9);
        Due.due("lie(0, 8) where one lies, bare again", x.lie(0, 8), 1);
        Due.due("lies there", x.person(0, 1), 8);
        Due.due("deeds", x.told(17), 12);
    }

    private static void getsUp() {
        Due.says("GETS UP: the PERSON lies nowhere; the dents stay");
        WingCensus x = Due.told("n3 3;p3;p3;");
        Due.due("rise(0), lies nowhere", x.rise(0), Due.NOT);
        x.lie(0, 0);
        x.lie(1, 8);
        Due.due("rise(0): the first cell", x.rise(0), 0);
        Due.due("rise(1): the last cell", x.rise(1), 8);
        Due.due("rise(1) again", x.rise(1), Due.NOT);
        Due.due("rise(2)", x.rise(2), Due.UNKNOWN);
        Due.due("rise(-1)", x.rise(-1), Due.UNKNOWN);
        Due.dueDents("the dents stay", x, "900/000/009");
        Due.due("nobody lies", x.told(7), 0);
        Due.due("deeds: lie, lie, rise, rise", x.told(17), 4);
    }

    // ---- nights

    /** A cell of a 2 by 2 field, dented by that much. */
    private static WingCensus dentedBy(int c, int by) {
        WingCensus x = Due.told("n2 2;p3;");
        if (by % 2 == 0 && by < 9) {
            for (int i = 0; i < by / 2; i++) x.hare(c);
        } else {
            x.lie(0, c);
            if (by < 9) x.night(9 - by);
        }
        Due.due("dented by", x.cell(c, 0), by);
        return x;
    }

    private static void nightByDents() {
        Due.says("each CELL that is DENTED is 1 less; 1 less again (0 at least)");
        for (int by = 0; by <= 9; by++) {
            WingCensus x = dentedBy(3, by);
            x.night(1);
            Due.due("still, by " + by, x.cell(3, 0), Math.max(0, by - 1));
            Due.due("a bare cell stays", x.cell(0, 0), 0);
            for (int wind = 1; wind <= 4; wind++) {
                WingCensus y = dentedBy(3, by);
                y.wind(wind);
                y.night(1);
                Due.due("wind " + wind + ", by " + by, y.cell(3, 0), Math.max(0, by - 2));
            }
        }
    }

    private static void nightAtEdges() {
        Due.says("the CELL from which it comes is not there: 1 less again");
        // nine small ones side by side: only those at the edge from which the wind comes are 2 less
        String[] want = {"888/888/888", "788/788/788", "777/888/888", "887/887/887", "888/888/777"};
        for (int wind = 0; wind <= 4; wind++) {
            WingCensus x = Due.told("n3 3;p0;p0;p0;w" + wind + ";");
            for (int y = 0; y < 3; y++) x.lie(y, 3 * y + 1);
            x.night(1);
            Due.dueDents("wind " + wind, x, want[wind]);
        }
        // the end of a row is no neighbour of the next one's beginning
        WingCensus right = Due.told("n2 2;p3;p3;w1;");
        right.lie(0, 1);
        right.lie(1, 2);
        right.night(1);
        Due.dueDents("to the right", right, "07/70");
        right.wind(3);
        right.night(1);
        Due.dueDents("to the left", right, "05/50");
    }

    private static void nightBehindRocksAndDents() {
        Due.says("neither ROCK nor DENTED ahead of that NIGHT");
        int[] from = {4, 3, 1, 5, 7};
        for (int wind = 1; wind <= 4; wind++) {
            int c = from[wind];
            WingCensus rock = Due.told("n3 3;p3;w" + wind + ";r" + c % 3 + " " + c / 3 + ";");
            rock.lie(0, 4);
            rock.night(1);
            Due.due("wind " + wind + ", behind a rock", rock.cell(4, 0), 8);
            WingCensus open = Due.told("n3 3;p3;w" + wind + ";");
            open.lie(0, 4);
            open.hare(8 - c);
            open.night(1);
            Due.due("wind " + wind + ", the rock's side open", open.cell(4, 0), 7);
            // dented by 1 it shelters in that night, though it is bare behind it
            WingCensus low = Due.told("n3 3;p3;");
            low.hare(c);
            low.night(1);
            low.lie(0, 4);
            low.wind(wind);
            low.night(1);
            Due.due("wind " + wind + ", behind a dent of 1", low.cell(4, 0), 8);
            Due.due("wind " + wind + ", that dent", low.cell(c, 0), 0);
            low.night(1);
            Due.due("wind " + wind + ", the dent is gone", low.cell(4, 0), 6);
        }
    }

    private static void nightsOfACall() {
        Due.says("n NIGHTS (1 .. 20)");
        WingCensus x = Due.told("n2 2;p3;");
        x.lie(0, 0);
        Due.due("night(0)", x.night(0), Due.OUTSIDE);
        Due.due("night(-1)", x.night(-1), Due.OUTSIDE);
        Due.due("night(21)", x.night(21), Due.OUTSIDE);
        Due.due("no night was", x.told(5), 0);
        Due.due("night(1)", x.night(1), 1);
        Due.due("one", x.told(5), 1);
        Due.due("night(20)", x.night(20), 0);
        Due.due("twenty more", x.told(5), 21);
        Due.due("night(19)", x.night(19), 0);
        Due.due("nineteen more", x.told(5), 40);
        Due.says("n NIGHTS BY DRAWS (1 .. 20)");
        Due.due("drift(0)", x.drift(0), Due.OUTSIDE);
        Due.due("drift(-1)", x.drift(-1), Due.OUTSIDE);
        Due.due("drift(21)", x.drift(21), Due.OUTSIDE);
        Due.due("no draw was", x.seed(0), 0);
        x.drift(1);
        Due.due("one more", x.told(5), 41);
        x.drift(20);
        Due.due("twenty more", x.told(5), 61);
    }

    private static WingCensus at9000() {
        WingCensus x = Due.told("n2 2;");
        for (int i = 0; i < 450; i++) x.night(20);
        return x;
    }

    private static void nightsAbove9000() {
        Due.says("FULL: NIGHTS are above 9000");
        WingCensus x = at9000();
        Due.due("nights", x.told(5), 9000);
        Due.due("night(1) at 9000", x.night(1), 0);
        Due.due("nights", x.told(5), 9001);
        Due.due("night(1) at 9001", x.night(1), Due.FULL);
        Due.due("drift(1) at 9001", x.drift(1), Due.FULL);
        Due.due("night(20) at 9001", x.night(20), Due.FULL);
        Due.due("night(0) at 9001", x.night(0), Due.OUTSIDE);
        Due.due("night(21) at 9001", x.night(21), Due.OUTSIDE);
        Due.due("drift(0) at 9001", x.drift(0), Due.OUTSIDE);
        Due.due("drift(21) at 9001", x.drift(21), Due.OUTSIDE);
        Due.due("nights stay", x.told(5), 9001);
        Due.due("THE SEED stays", x.seed(0), 0);
        Due.due("deeds", x.told(17), 30);
        Due.due("other deeds can be done", x.thaw(), 0);
        Due.due("nights can be undone", x.undo(2), 9000);
        Due.due("drift(1) at 9000", x.drift(1), 0);
        Due.due("nights", x.told(5), 9001);
        Due.due("nights can be undone", x.undo(2), 8999);
        Due.due("night(1) at 8999", x.night(1), 0);
        Due.due("night(20) at 9000", x.night(20), 0);
        Due.due("nights", x.told(5), 9020);
    }

    // ---- other deeds

    private static void thaw() {
        Due.says("THAW: all are 3 less");
        for (int by = 0; by <= 9; by++) {
            for (int c = 0; c <= 3; c += 3) {
                WingCensus x = dentedBy(c, by);
                int nights = x.told(5);
                Due.due("thaw(), " + c + " by " + by, x.thaw(), by >= 6 ? 1 : 0);
                Due.due("then " + c + " by", x.cell(c, 0), Math.max(0, by - 3));
                Due.due("no night", x.told(5), nights);
            }
        }
        WingCensus x = Due.told("n7 7;p3;p3;");
        x.lie(0, 0);
        x.lie(1, 48);
        x.thaw();
        Due.due("the first cell", x.cell(0, 0), 6);
        Due.due("the last cell", x.cell(48, 0), 6);
        Due.due("who lies stays", x.told(7), 3);
        Due.due("thaw() without a NORTH", new WingCensus().thaw(), Due.NOT);
    }

    private static void snow() {
        Due.says("SNOW: those that were by 4 or less are 0, all others 1 less");
        for (int by = 0; by <= 9; by++) {
            for (int c = 0; c <= 3; c += 3) {
                WingCensus x = dentedBy(c, by);
                int nights = x.told(5);
                Due.due("snow(), " + c + " by " + by, x.snow(), by >= 5 ? 1 : 0);
                Due.due("then " + c + " by", x.cell(c, 0), by <= 4 ? 0 : by - 1);
                Due.due("no night", x.told(5), nights);
            }
        }
        WingCensus x = Due.told("n7 7;p3;p3;");
        x.lie(0, 0);
        x.lie(1, 48);
        x.snow();
        Due.due("the first cell", x.cell(0, 0), 8);
        Due.due("the last cell", x.cell(48, 0), 8);
        Due.due("snow() without a NORTH", new WingCensus().snow(), Due.NOT);
    }

    private static void hare() {
        Due.says("HARE: a CELL (no ROCK) is DENTED by 2 more (9 at most)");
        for (int by = 0; by <= 9; by++) {
            WingCensus x = dentedBy(3, by);
            Due.due("hare(3), by " + by, x.hare(3), Math.min(9, by + 2));
            Due.due("then by", x.cell(3, 0), Math.min(9, by + 2));
            Due.due("the others stay", x.cell(2, 0), 0);
        }
        WingCensus x = Due.told("n7 7;r6 6;r0 0;");
        Due.due("hare(48): a ROCK", x.hare(48), Due.NOT);
        Due.due("hare(0): a ROCK", x.hare(0), Due.NOT);
        Due.due("hare(47)", x.hare(47), 2);
        Due.due("hare(1)", x.hare(1), 2);
        Due.due("hare(49)", x.hare(49), Due.UNKNOWN);
        Due.due("hare(-1)", x.hare(-1), Due.UNKNOWN);
        Due.due("deeds", x.told(17), 2);
        Due.due("nothing on the rock", x.cell(48, 0), 0);
    }

    private static void pin() {
        Due.says("PIN: DENTED by 5, those that were by more stay");
        for (int by = 0; by <= 9; by++) {
            WingCensus x = dentedBy(3, by);
            Due.due("pin(1), by " + by, x.pin(1), 2);
            Due.due("then by", x.cell(3, 0), Math.max(5, by));
            Due.due("beside it", x.cell(2, 0), 5);
            Due.due("the other row", x.cell(1, 0), 0);
        }
    }

    private static void pinRows() {
        Due.says("all CELLS of a row that are no ROCKS; OUTSIDE (there is no such row)");
        WingCensus x = Due.told("n3 2;r1 1;r0 0;r1 0;r2 0;");
        Due.due("pin(-1)", x.pin(-1), Due.OUTSIDE);
        Due.due("pin(2)", x.pin(2), Due.OUTSIDE);
        Due.due("pin(MIN)", x.pin(Integer.MIN_VALUE), Due.OUTSIDE);
        Due.due("pin(MAX)", x.pin(Integer.MAX_VALUE), Due.OUTSIDE);
        Due.due("no deed yet", x.told(17), 0);
        Due.due("pin(0): all rocks", x.pin(0), 0);
        Due.dueDents("pin(0)", x, "000/000");
        Due.due("a deed", x.told(17), 1);
        Due.due("pin(1): the last row", x.pin(1), 2);
        Due.dueDents("pin(1)", x, "000/505");
        WingCensus y = Due.told("n7 7;");
        Due.due("pin(6)", y.pin(6), 3);
        Due.due("the first of the row", y.cell(42, 0), 5);
        Due.due("the last of the row", y.cell(48, 0), 5);
        Due.due("above it", y.cell(41, 0), 0);
        Due.due("pin(7)", y.pin(7), Due.OUTSIDE);
        // the rows are H, not W
        WingCensus tall = Due.told("n2 4;");
        Due.due("pin(3) of four rows, two across", tall.pin(3), 2);
        Due.dueDents("pin(3)", tall, "00/00/00/55");
        Due.due("pin(2) of two rows, four across", Due.told("n4 2;").pin(2), Due.OUTSIDE);
    }

    private static void winds() {
        Due.says("WIND (0 .. 4): what it was");
        WingCensus x = Due.told("n2 2;w3;");
        Due.due("wind(-1)", x.wind(-1), Due.OUTSIDE);
        Due.due("wind(5)", x.wind(5), Due.OUTSIDE);
        Due.due("the wind stays", x.told(6), 3);
        Due.due("no deed yet", x.told(17), 0);
        Due.due("wind(4)", x.wind(4), 3);
        Due.due("wind(0)", x.wind(0), 4);
        Due.due("wind(0) again", x.wind(0), 0);
        Due.due("told(6)", x.told(6), 0);
        Due.due("deeds", x.told(17), 3);
        Due.due("wind(5) without a NORTH", new WingCensus().wind(5), Due.OUTSIDE);
        Due.due("wind(4) without a NORTH", new WingCensus().wind(4), Due.NOT);
    }

    // ---- what is seen and counted

    private static void seen() {
        Due.says("SEEN are CELLS that are DENTED by 3 or more");
        for (int by = 0; by <= 9; by++) {
            for (int c = 0; c <= 3; c += 3) {
                WingCensus x = dentedBy(c, by);
                int want = by >= 3 ? 1 : 0;
                Due.due("COUNT, by " + by, x.told(8), want);
                Due.due("GROUPS, by " + by, x.told(10), want);
                Due.due("the greatest begins, by " + by, x.told(11), want == 1 ? c : Due.NONE);
                Due.due("FORGED, by " + by, x.told(12), 0);
                Due.due("its group, by " + by, x.cell(c, 2), want);
                if (x.person(0, 1) != Due.NONE) Due.due("its shape, by " + by, x.person(0, 2), want);
            }
        }
    }

    /** Hares on the first cells, row by row: one group of so many. */
    private static WingCensus firstCells(String size, int many) {
        WingCensus x = Due.told("n" + size + ";");
        for (int c = 0; c < many; c++) {
            x.hare(c);
            x.hare(c);
        }
        return x;
    }

    private static void countedAs() {
        Due.says("COUNTED as, by its CELLS: 1: 1; 2: 2; 3, 4: 1; else a third of them (cut), and 1");
        int[] want = {0, 1, 2, 1, 1, 2, 3, 3, 3, 4, 4, 4, 5, 5, 5, 6};
        for (int many = 0; many < want.length; many++) {
            WingCensus x = firstCells("7 7", many);
            Due.due("COUNT of " + many, x.told(8), want[many]);
            Due.due("its cells", x.cell(0, 2), many);
        }
        WingCensus x = Due.told("n7 7;");
        int[] byRows = {3, 5, 8, 10, 12, 15, 17};
        for (int y = 0; y < 7; y++) Due.due("pin(" + y + "): rows " + (y + 1), x.pin(y), byRows[y]);
        Due.due("all 49 in one group", x.cell(48, 2), 49);
        Due.due("one group", x.told(10), 1);
        Due.due("it is forged", x.told(12), 1);
        Due.due("it begins at 0", x.told(11), 0);
    }

    private static void groups() {
        Due.says("CELLS that are SEEN and hang together, side by side, one above the other");
        // every other cell: 25 groups of one
        WingCensus x = Due.told("n7 7;");
        for (int c = 0; c < 49; c += 2) {
            x.hare(c);
            x.hare(c);
        }
        Due.due("GROUPS", x.told(10), 25);
        Due.due("COUNT of all GROUPS together", x.told(8), 25);
        Due.due("the greatest: of like ones the least", x.told(11), 0);
        Due.due("FORGED", x.told(12), 0);
        Due.due("the last one's", x.cell(48, 2), 1);
        Due.due("of a bare cell", x.cell(47, 2), 0);
        // a winding one: rows 0, 2, 4, 6, joined at their ends
        WingCensus y = Due.told("n7 7;");
        for (int row = 0; row < 7; row += 2) y.pin(row);
        for (int c : new int[] {13, 21, 41}) {
            y.hare(c);
            y.hare(c);
        }
        Due.due("a winding group", y.cell(0, 2), 31);
        Due.due("COUNT", y.told(8), 11);
        Due.due("GROUPS", y.told(10), 1);
        // a cell dented by 2 joins nothing
        WingCensus z = firstCells("3 2", 1);
        z.hare(1);
        z.hare(2);
        z.hare(2);
        Due.due("two apart, a shallow one between", z.told(10), 2);
        z.hare(1);
        Due.due("one, as it is deeper", z.told(10), 1);
    }

    private static void greatest() {
        Due.says("the CELL where the greatest one begins (its least CELL; of like ones the least); NONE");
        Due.due("none", Due.told("n7 7;").told(11), Due.NONE);
        Due.due("without a NORTH", new WingCensus().told(11), Due.NONE);
        WingCensus x = Due.told("n3 3;p4;p4;p0;");
        x.lie(0, 1);
        Due.due("one", x.told(11), 1);
        x.hare(3);
        x.hare(3);
        Due.due("one lesser ahead", x.told(11), 1);
        x.lie(1, 7);
        Due.due("a like one behind", x.told(11), 1);
        x.hare(6);
        x.hare(6);
        Due.due("that one grows", x.told(11), 3);
        // its least cell, though it is met at the end of the row above
        WingCensus y = Due.told("n3 3;p0;");
        y.lie(0, 4);
        y.hare(2);
        y.hare(2);
        Due.due("its least cell", y.told(11), 2);
    }

    private static void forged() {
        Due.says("FORGED: GROUPS that are no SHAPE of any KIND: how many");
        String[] shapes = {"345", "1345", "47", "4", "45", "012", "678", "2", "58", "01"};
        for (String cells : shapes) Due.due("no forgery " + cells, withCells(cells).told(12), 0);
        String[] others = {"147", "3457", "134", "145", "0134", "012345678", "3478", "0345", "36784"};
        for (String cells : others) Due.due("a forgery " + cells, withCells(cells).told(12), 1);
        Due.due("of several", withCells("0168").told(12), 0);
        Due.due("two", withCells("036258").told(12), 2);
        WingCensus first = Due.told("n3 3;");
        first.hare(0);
        first.hare(0);
        Due.due("one at the first cell alone", first.told(12), 0);
    }

    private static WingCensus withCells(String cells) {
        WingCensus x = Due.told("n3 3;");
        for (char c : cells.toCharArray()) {
            x.hare(c - '0');
            x.hare(c - '0');
        }
        return x;
    }

    private static void truth() {
        Due.says("TRUE: PEOPLE who lie, those of KIND 2 twice");
        WingCensus x = Due.told("n7 7;p2;p2;p2;p2;p2;p2;p2;");
        Due.due("nobody", x.told(9), 0);
        for (int p = 0; p < 7; p++) {
            x.lie(p, p);
            Due.due("person " + p + ", too", x.told(9), 2 * (p + 1));
        }
        Due.due("who lies (a SET)", x.told(7), 127);
        x.night(20);
        Due.due("though blurred", x.told(9), 14);
        x.rise(6);
        Due.due("one up", x.told(9), 12);
        Due.due("who lies (a SET)", x.told(7), 63);
        for (int kind = 0; kind < 5; kind++) {
            WingCensus y = Due.told("n3 3;p" + kind + ";");
            y.lie(0, 4);
            Due.due("kind " + kind, y.told(9), kind == 2 ? 2 : 1);
        }
    }

    private static void farOut() {
        Due.says("FAR OUT: of like ones the least; NONE: fewer than two lie");
        WingCensus x = Due.told("n7 7;p3;p3;p3;");
        Due.due("nobody", x.told(13), Due.NONE);
        x.lie(2, 0);
        Due.due("one", x.told(13), Due.NONE);
        x.lie(1, 48);
        Due.due("two: like ones", x.told(13), 1);
        x.lie(0, 47);
        Due.due("three", x.told(13), 2);
        x.rise(2);
        Due.due("two, side by side", x.told(13), 0);
        x.rise(0);
        Due.due("one again", x.told(13), Due.NONE);
        x.night(9);
        x.lie(2, 48);
        Due.due("two at the same CELL", x.told(13), 1);
        Due.due("without a NORTH", new WingCensus().told(13), Due.NONE);
    }

    private static void bare() {
        Due.says("BARE: behind how many NIGHTS nothing is DENTED (0 .. 9)");
        for (int by = 0; by <= 9; by++) {
            WingCensus x = dentedBy(0, by);
            Due.due("still, by " + by, x.told(14), by);
            x.wind(1);
            Due.due("wind, by " + by, x.told(14), (by + 1) / 2);
            Due.due("nothing changes by it", x.cell(0, 0), by);
        }
        WingCensus last = dentedBy(3, 9);
        Due.due("the last cell", last.told(14), 9);
    }

    // ---- promises 5 to 7

    private static void toldBounds() {
        Due.says("told: 0 .. 17; OUTSIDE");
        WingCensus x = Due.told("n2 2;p3;");
        Due.due("told(0)", x.told(0), 2);
        Due.due("told(17)", x.told(17), 0);
        for (int what : new int[] {-1, 18, Integer.MIN_VALUE, Integer.MAX_VALUE}) {
            Due.due("told(" + what + ")", x.told(what), Due.OUTSIDE);
            Due.due("told(" + what + ") without a NORTH", new WingCensus().told(what), Due.OUTSIDE);
        }
        Due.says("0 W (0 without a NORTH)");
        Due.due("told(0)", new WingCensus().told(0), 0);
        Due.due("told(1)", new WingCensus().told(1), 0);
    }

    private static void cell() {
        Due.says("cell: UNKNOWN, OUTSIDE");
        WingCensus x = Due.told("n7 7;p3;p3;r6 6;");
        int[] first = {0, 0, 0, Due.NONE};
        int[] last = {0, 1, 0, Due.NONE};
        for (int k = 0; k < 4; k++) {
            Due.due("cell(0, " + k + ")", x.cell(0, k), first[k]);
            Due.due("cell(48, " + k + ")", x.cell(48, k), last[k]);
            Due.due("cell(49, " + k + ")", x.cell(49, k), Due.UNKNOWN);
            Due.due("cell(-1, " + k + ")", x.cell(-1, k), Due.UNKNOWN);
        }
        for (int k : new int[] {-1, 4, Integer.MIN_VALUE, Integer.MAX_VALUE}) {
            Due.due("cell(0, " + k + ")", x.cell(0, k), Due.OUTSIDE);
            Due.due("cell(48, " + k + ")", x.cell(48, k), Due.OUTSIDE);
            Due.due("cell(49, " + k + ")", x.cell(49, k), Due.UNKNOWN);
            Due.due("cell(-1, " + k + ")", x.cell(-1, k), Due.UNKNOWN);
        }
        Due.says("3 the PERSON whose CELL it is (the least; NONE)");
        x.lie(1, 0);
        Due.due("person 1", x.cell(0, 3), 1);
        x.night(9);
        x.lie(0, 0);
        Due.due("both: the least", x.cell(0, 3), 0);
        x.rise(0);
        Due.due("person 1 again", x.cell(0, 3), 1);
        x.rise(1);
        Due.due("nobody", x.cell(0, 3), Due.NONE);
    }

    private static void person() {
        Due.says("person: UNKNOWN, OUTSIDE");
        WingCensus x = Due.told("n3 3;p4;p0;p0;p0;p0;p0;p1;");
        Due.due("person(6, 0)", x.person(6, 0), 1);
        Due.due("person(0, 0)", x.person(0, 0), 4);
        for (int k : new int[] {-1, 3, Integer.MIN_VALUE, Integer.MAX_VALUE}) {
            Due.due("person(0, " + k + ")", x.person(0, k), Due.OUTSIDE);
            Due.due("person(6, " + k + ")", x.person(6, k), Due.OUTSIDE);
            Due.due("person(7, " + k + ")", x.person(7, k), Due.UNKNOWN);
            Due.due("person(-1, " + k + ")", x.person(-1, k), Due.UNKNOWN);
        }
        for (int k = 0; k < 3; k++) Due.due("person(7, " + k + ")", x.person(7, k), Due.UNKNOWN);
        Due.says("1 the CELL (NONE: lies nowhere), 2 how many CELLS of the SHAPE are SEEN yet (0: lies nowhere)");
        Due.due("person(6, 1)", x.person(6, 1), Due.NONE);
        Due.due("person(6, 2)", x.person(6, 2), 0);
        x.lie(6, 4);
        Due.due("person(6, 1), lies", x.person(6, 1), 4);
        Due.due("person(6, 2), lies", x.person(6, 2), 4);
        x.night(6);
        Due.due("person(6, 2), by 3", x.person(6, 2), 4);
        x.night(1);
        Due.due("person(6, 2), by 2", x.person(6, 2), 0);
        x.hare(4);
        Due.due("person(6, 2), a hare on it", x.person(6, 2), 1);
        x.rise(6);
        Due.due("person(6, 2), up", x.person(6, 2), 0);
    }

    // ---- by draws

    private static long seed;

    private static int draw(int n) {
        seed = (seed * 1103515245L + 12345L) % 2147483648L;
        return (int) (seed / 65536 % n);
    }

    /** The least seed whose next draws of these numbers are those; behind it, seed is what the last draw left. */
    private static int seedFor(int[] of, int... want) {
        for (int v = 0; v < 100000000; v++) {
            seed = v;
            boolean good = true;
            for (int i = 0; good && i < of.length; i++) good = draw(of[i]) == want[i];
            if (good) return v;
        }
        return 0;
    }

    private static void drawOf8() {
        Due.says("ahead of each a DRAW of 8");
        for (int k = 4; k <= 7; k++) {
            WingCensus x = Due.told("n2 2;p3;p3;w2;");
            x.lie(0, 0);
            x.seed(seedFor(new int[] {8}, k));
            x.drift(1);
            Due.due("on " + k + " one draw", x.seed(0), (int) seed);
            Due.dueDents("on " + k + " a night alone", x, "70/00");
            Due.due("on " + k + " the wind stays", x.told(6), 2);
            Due.due("on " + k + " nobody else lies", x.told(7), 1);
        }
    }

    private static void driftLies() {
        Due.says("on 0, if there are PEOPLE, a DRAW of these, of CELLS: LIES there, if that can be (who lies already gets up)");
        int[] of = {8, 7, 9};
        WingCensus x = Due.told("n3 3;p3;p3;p3;p3;p3;p3;p0;r0 0;");
        x.seed(seedFor(of, 0, 6, 7));
        x.drift(1);
        Due.due("the last person", x.person(6, 1), 7);
        Due.dueDents("lies ahead of the night", x, "000/000/888");
        x.seed(seedFor(of, 0, 6, 4));
        x.drift(1);
        Due.due("gets up, lies elsewhere", x.person(6, 1), 4);
        Due.dueDents("the dents stay", x, "000/888/777");
        x.seed(seedFor(of, 0, 6, 1));
        x.drift(1);
        Due.due("a rock: that cannot be", x.person(6, 1), 4);
        Due.due("the draws are done", x.seed(0), (int) seed);
        x.seed(seedFor(of, 0, 0, 8));
        x.drift(1);
        Due.due("dented: that cannot be", x.person(0, 1), Due.NONE);
        Due.dueDents("nights alone", x, "000/666/555");
        x.seed(seedFor(of, 0, 0, 2));
        x.drift(1);
        Due.due("the first person", x.person(0, 1), 2);
        Due.dueDents("there", x, "008/555/444");
        WingCensus none = Due.told("n3 3;");
        none.seed(seedFor(new int[] {8}, 0));
        Due.due("no PEOPLE", none.drift(1), 0);
        Due.due("no PEOPLE: one draw", none.seed(0), (int) seed);
        WingCensus one = Due.told("n2 2;p3;");
        one.seed(seedFor(new int[] {8, 1, 4}, 0, 0, 3));
        one.drift(1);
        Due.due("one person: a DRAW of 1 is a DRAW, too", one.seed(0), (int) seed);
        Due.due("there", one.person(0, 1), 3);
    }

    private static void driftHareAndSnow() {
        Due.says("on 1 a DRAW of CELLS: a HARE, if it is no ROCK");
        WingCensus x = Due.told("n2 2;p3;r1 1;");
        x.lie(0, 0);
        x.night(1);
        x.seed(seedFor(new int[] {8, 4}, 1, 0));
        x.drift(1);
        Due.dueDents("from 8 to 9, then the night", x, "80/00");
        x.seed(seedFor(new int[] {8, 4}, 1, 3));
        x.drift(1);
        Due.dueDents("a ROCK", x, "70/00");
        Due.due("the draws are done", x.seed(0), (int) seed);
        x.seed(seedFor(new int[] {8, 4}, 1, 2));
        x.drift(1);
        Due.dueDents("on bare snow", x, "60/10");
        Due.says("on 2 SNOW");
        x.seed(seedFor(new int[] {8}, 2));
        x.drift(1);
        Due.dueDents("from 6", x, "40/00");
        Due.due("one draw", x.seed(0), (int) seed);
        x.seed(seedFor(new int[] {8}, 2));
        x.drift(1);
        Due.dueDents("from 4", x, "00/00");
    }

    private static void driftWind() {
        Due.says("on 3 WIND is a DRAW of 5");
        for (int wind = 0; wind <= 4; wind++) {
            WingCensus x = Due.told("n3 3;p3;w1;");
            x.lie(0, 4);
            x.seed(seedFor(new int[] {8, 5}, 3, wind));
            x.drift(1);
            Due.due("the wind " + wind, x.told(6), wind);
            Due.due("ahead of the night", x.cell(4, 0), wind == 0 ? 8 : 7);
            Due.due("two draws", x.seed(0), (int) seed);
        }
    }

    private static void driftSeed() {
        Due.says("THE SEED: times 1103515245 and 12345, left over by 2 to the 31");
        long[] from = {0, 1, 2, 65535, 65536, 1103515245L, 2147483646L, 2147483647L};
        for (long v : from) {
            WingCensus x = Due.told("n7 7;");
            x.seed((int) v);
            seed = v;
            int what = draw(8);
            if (what == 1) draw(49);
            if (what == 3) draw(5);
            x.drift(1);
            Due.due("THE SEED from " + v, x.seed(0), (int) seed);
        }
        WingCensus still = Due.told("n2 2;");
        still.night(5);
        Due.due("NIGHTS that are not BY DRAWS draw nothing", still.seed(0), 0);
    }

    // ---- undone

    private static void undoBounds() {
        Due.says("The n latest (1 .. 30) are undone: NIGHTS. OUTSIDE, NOT: not so many");
        WingCensus x = Due.told("n2 2;");
        Due.due("undo(1), nothing", x.undo(1), Due.NOT);
        Due.due("undo(30), nothing", x.undo(30), Due.NOT);
        Due.due("undo(31), nothing", x.undo(31), Due.OUTSIDE);
        Due.due("undo(0), nothing", x.undo(0), Due.OUTSIDE);
        Due.due("undo(31) without a NORTH", new WingCensus().undo(31), Due.OUTSIDE);
        Due.due("undo(1) without a NORTH", new WingCensus().undo(1), Due.NOT);
        x.night(5);
        Due.due("undo(6)", x.undo(6), Due.NOT);
        Due.due("undo(0)", x.undo(0), Due.OUTSIDE);
        Due.due("undo(-1)", x.undo(-1), Due.OUTSIDE);
        Due.due("all are there yet", x.told(5), 5);
        Due.due("undo(5)", x.undo(5), 0);
        Due.due("undo(1) then", x.undo(1), Due.NOT);
        x.night(20);
        x.night(20);
        Due.due("undo(31) of 40", x.undo(31), Due.OUTSIDE);
        Due.due("undo(30) of 40", x.undo(30), 10);
        Due.due("undo(1) then", x.undo(1), Due.NOT);
    }

    private static void deedsKept() {
        Due.says("30 at most are kept");
        WingCensus x = Due.told("n2 2;p3;");
        x.lie(0, 3);
        for (int i = 1; i <= 28; i++) x.wind(i % 5);
        Due.due("29", x.told(17), 29);
        x.hare(0);
        Due.due("30", x.told(17), 30);
        Due.due("undo(30): all of 30", x.undo(30), 0);
        Due.due("the first is undone", x.told(7), 0);
        x.lie(0, 3);
        for (int i = 1; i <= 29; i++) x.wind(i % 5);
        x.hare(0);
        Due.due("30 of 31", x.told(17), 30);
        Due.due("undo(30) of 31", x.undo(30), 0);
        Due.due("the first of 31 stays", x.told(7), 1);
        Due.due("the second is undone", x.told(6), 0);
        Due.due("no more", x.undo(1), Due.NOT);
        // over the end and on, several times
        for (int round = 1; round <= 3; round++) {
            for (int i = 0; i < 17; i++) x.night(1);
            Due.due("undo(8), round " + round, x.undo(8), 9 * round);
        }
        Due.due("kept", x.told(17), 22);
        Due.due("undo(22)", x.undo(22), 5);
        x.night(20);
        x.night(17);
        Due.due("undo(29)", x.undo(29), 13);
        Due.due("undo(1)", x.undo(1), 12);
        Due.due("undo(1)", x.undo(1), Due.NOT);
    }

    private static void deedsSince() {
        Due.says("since the text or IMAGE");
        WingCensus x = Due.told("n2 2;p3;");
        x.night(3);
        x.keep(0);
        Due.due("behind keep()", x.undo(1), Due.NOT);
        x.night(2);
        Due.due("undo(3) behind keep(), two nights", x.undo(3), Due.NOT);
        x.goBack(0);
        Due.due("behind goBack()", x.undo(1), Due.NOT);
        x.night(2);
        x.goBack(1);
        x.goBack(2);
        x.keep(2);
        x.keep(-1);
        Due.due("behind refusals", x.told(17), 2);
        x.feed('x');
        x.north();
        Due.due("behind a text with a FAULT", x.undo(1), 4);
        Due.feed(x, "n2 2;");
        x.north();
        Due.due("behind a text", x.undo(1), Due.NOT);
        x.hare(0);
        x.north();
        Due.due("behind an empty text", x.undo(1), Due.NOT);
    }

    private static void deedsEach() {
        Due.says("each NIGHT, lie(), rise(), thaw(), snow(), hare(), pin(), wind(), each NIGHT BY DRAWS");
        WingCensus x = Due.told("n3 3;p3;p0;w1;r2 2;");
        String[] before = new String[9];
        int[] deeds = {1, 1, 1, 1, 1, 1, 1, 3, 4};
        int all = 0;
        for (int k = 0; k < 9; k++) {
            before[k] = Due.dents(x) + " " + x.told(5) + " " + x.told(6) + " " + x.told(7);
            switch (k) {
                case 0 -> x.lie(0, 0);
                case 1 -> x.lie(1, 4);
                case 2 -> x.rise(0);
                case 3 -> x.hare(7);
                case 4 -> x.pin(2);
                case 5 -> x.wind(4);
                case 6 -> x.thaw();
                case 7 -> x.night(3);
                default -> x.drift(4);
            }
            all += deeds[k];
            Due.due("deeds behind " + k, x.told(17), all);
        }
        for (int k = 8; k >= 0; k--) {
            x.undo(deeds[k]);
            Due.dueSame("undone to " + k, Due.dents(x) + " " + x.told(5) + " " + x.told(6) + " " + x.told(7), before[k]);
        }
        // what is no deed
        x.snow();
        x.find(0, true);
        x.write(3);
        x.seed(8);
        x.feed(' ');
        x.tear();
        x.lie(9, 0);
        x.told(8);
        x.willCount(3);
        Due.due("one deed: snow()", x.told(17), 1);
        Due.due("undo(2)", x.undo(2), Due.NOT);
        Due.says("UNDONE: single nights of a call can be undone");
        x.wind(0);
        x.lie(0, 0);
        x.night(9);
        x.undo(4);
        Due.due("five nights are left", x.cell(0, 0), 4);
        Due.due("NIGHTS", x.told(5), 5);
    }

    private static void seedStays() {
        Due.says("THE SEED stays");
        WingCensus x = Due.told("n7 7;p0;p1;p2;");
        x.seed(4711);
        x.drift(20);
        int then = x.seed(0);
        x.seed(then);
        Due.due("undo(20)", x.undo(20), 0);
        Due.due("THE SEED", x.seed(1), then);
        Due.due("it is another", then == 4711 ? 1 : 0, 0);
    }
}
