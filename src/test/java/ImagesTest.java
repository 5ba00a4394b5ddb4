/** Promises 31 to 33: seed, keep, goBack. */
public final class ImagesTest {
    public static void main(String[] args) {
        seed();
        keep();
        goBack();
        twoImages();
        notKept();
        Due.end();
    }

    private static void seed() {
        WingCensus x = new WingCensus();
        Due.due("seed(-1)", x.seed(-1), Due.OUTSIDE);
        Due.due("seed(MIN)", x.seed(Integer.MIN_VALUE), Due.OUTSIDE);
        Due.due("seed(7)", x.seed(7), 0);
        Due.due("seed(MAX)", x.seed(2147483647), 7);
        Due.due("seed(0)", x.seed(0), 2147483647);
        WingCensus y = Due.told("n3 3;");
        y.drift(1);
        // 12345 / 65536 is 0: a draw of no people, so one draw
        Due.due("seed behind a drift from 0", y.seed(3), 12345);
        Due.due("seed is no deed", y.told(17), 1);
    }

    private static void keep() {
        WingCensus x = Due.told("n3 3;p3;");
        Due.due("keep(-1)", x.keep(-1), Due.UNKNOWN);
        Due.due("keep(2)", x.keep(2), Due.UNKNOWN);
        x.hare(0);
        Due.due("undone could be", x.told(17), 1);
        Due.due("keep(0)", x.keep(0), 1);
        Due.due("nothing can be undone", x.told(17), 0);
        Due.due("undo(1)", x.undo(1), Due.NOT);
        Due.due("keep(1)", x.keep(1), 1);
        Due.due("what is so stays", x.cell(0, 0), 2);
    }

    private static void goBack() {
        WingCensus x = Due.told("n4 4;p0;p3;w2;");
        Due.due("goBack(-1)", x.goBack(-1), Due.UNKNOWN);
        Due.due("goBack(2)", x.goBack(2), Due.UNKNOWN);
        Due.due("goBack(0)", x.goBack(0), Due.NOT);
        x.lie(0, 5);
        x.night(2);
        x.wind(3);
        x.seed(42);
        x.find(1, true);
        x.keep(0);
        String kept = Due.all(x);
        Due.due("goBack(1)", x.goBack(1), Due.NOT);
        x.rise(0);
        x.lie(1, 15);
        x.night(5);
        x.wind(1);
        x.seed(43);
        x.hare(3);
        Due.due("goBack(0)", x.goBack(0), 1);
        Due.dueSame("all as it was", Due.all(x), kept);
        Due.due("the seed, too", x.seed(42), 42);
        Due.due("undo(1)", x.undo(1), Due.NOT);
        x.drift(9);
        String one = Due.all(x);
        Due.due("goBack(0) again", x.goBack(0), 1);
        x.drift(9);
        Due.dueSame("the same draws", Due.all(x), one);
        x.find(2, true);
        x.write(8);
        x.goBack(0);
        Due.due("what is found stays", x.told(15), 2);
        Due.due("the book stays", x.told(16), 1);
        x.feed('n');
        x.goBack(0);
        Due.due("the text stays", x.told(4), 1);
    }

    private static void twoImages() {
        WingCensus x = Due.told("n3 3;p3;");
        x.hare(0);
        x.keep(0);
        x.hare(1);
        x.keep(1);
        x.hare(2);
        x.goBack(0);
        Due.dueDents("image 0", x, "200/000/000");
        x.goBack(1);
        Due.dueDents("image 1", x, "220/000/000");
        x.hare(8);
        x.keep(0);
        x.goBack(1);
        x.goBack(0);
        Due.dueDents("image 0 anew", x, "220/000/002");
        x.hare(8);
        x.undo(1);
        Due.dueDents("undone to the image", x, "220/000/002");
        Due.due("undo(1)", x.undo(1), Due.NOT);
        x.goBack(1);
        Due.dueDents("image 1 is as it was", x, "220/000/000");
    }

    private static void notKept() {
        WingCensus x = new WingCensus();
        x.seed(5);
        Due.due("keep(0) without a north", x.keep(0), 1);
        x.seed(6);
        Due.due("goBack(0) without a north", x.goBack(0), 1);
        Due.due("the seed", x.seed(0), 5);
        Due.feed(x, "n2 2;");
        x.north();
        Due.due("goBack(0) with a new north", x.goBack(0), Due.NOT);
        x.keep(0);
        Due.feed(x, "n2 2;x");
        x.north();
        Due.due("goBack(0) behind a fault", x.goBack(0), 1);
    }
}
