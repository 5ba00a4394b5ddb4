import java.util.function.Supplier;
import java.util.function.ToIntFunction;

/**
 * "REFUSALS, of several the first in this order: UNKNOWN, OUTSIDE, NOT, FULL. What is refused changes nothing." For each
 * call, each refusal and each pair of refusals that can meet: the one that is due, and that all is as on an object
 * on which the call was not made. The same for questions: "nothing changes by it".
 */
public final class RefusalsTest {
    private static final int MIN = Integer.MIN_VALUE, MAX = Integer.MAX_VALUE;

    private static Supplier<WingCensus> state;
    private static String stateName;

    public static void main(String[] args) {
        withoutNorth();
        withoutPeople();
        lived();
        full();
        late();
        questions();
        refusalsAsNumbers();
        Due.end();
    }

    private static void in(String name, Supplier<WingCensus> made) {
        stateName = name;
        state = made;
    }

    private static void refused(String call, int want, ToIntFunction<WingCensus> done) {
        WingCensus x = state.get();
        Due.due(stateName + ": " + call, done.applyAsInt(x), want);
        Due.dueSame(stateName + ": " + call + " changes nothing", Due.spent(x), Due.spent(state.get()));
    }

    private static void unknown(String call, ToIntFunction<WingCensus> done) {
        refused(call, Due.UNKNOWN, done);
    }

    private static void outside(String call, ToIntFunction<WingCensus> done) {
        refused(call, Due.OUTSIDE, done);
    }

    private static void not(String call, ToIntFunction<WingCensus> done) {
        refused(call, Due.NOT, done);
    }

    // ---- the states

    private static WingCensus newWithSeed() {
        WingCensus x = new WingCensus();
        x.seed(9);
        x.keep(1);
        x.seed(10);
        x.write(3);
        Due.feed(x, "n2 2;x");
        return x;
    }

    /** Two lie, one does not; image 0 is kept, image 1 is not; some deeds, some notes, some letters. */
    private static WingCensus livedOne() {
        WingCensus x = Due.told("n3 3;p0;p3;p2;w1;r2 2;");
        x.seed(77);
        x.lie(0, 1);
        x.keep(0);
        x.seed(78);
        x.night(2);
        x.lie(1, 6);
        x.wind(3);
        x.hare(7);
        x.find(0, true);
        x.find(4, false);
        x.write(1);
        x.write(7);
        Due.feed(x, "n2 2;p0;q");
        return x;
    }

    private static WingCensus fullText() {
        WingCensus x = Due.told("n2 2;p3;");
        x.lie(0, 3);
        Due.feed(x, "n3 3;p0;x");
        for (int i = 9; i < 240; i++) x.feed(' ');
        return x;
    }

    /** What is found and the book are as many as can be; six of seven lie. */
    private static WingCensus fullNotes() {
        WingCensus x = Due.told("n2 2;p3;p3;p3;p3;p3;p3;p3;");
        for (int p = 0; p < 6; p++) {
            x.lie(p, 3);
            x.night(9);
        }
        x.keep(1);
        x.pin(0);
        for (int i = 0; i < 6; i++) x.find(0, i % 2 == 0);
        for (int i = 0; i < 20; i++) x.write(i);
        return x;
    }

    private static WingCensus fullDeeds() {
        WingCensus x = Due.told("n2 2;p3;r1 1;");
        x.hare(0);
        x.lie(0, 2);
        x.night(12);
        x.pin(0);
        x.drift(17);
        return x;
    }

    private static WingCensus lateOne() {
        WingCensus x = Due.told("n2 2;");
        for (int i = 0; i < 450; i++) x.night(20);
        x.night(1);
        return x;
    }

    // ---- the calls

    private static void withoutNorth() {
        Due.says("What is refused changes nothing");
        in("no NORTH", RefusalsTest::newWithSeed);
        noCells();
        noPeople();
        outsideAlways();
        for (int y : new int[] {0, 1, -1, MAX}) outside("pin(" + y + ")", x -> x.pin(y));
        not("night(1)", x -> x.night(1));
        not("night(20)", x -> x.night(20));
        not("drift(1)", x -> x.drift(1));
        not("drift(20)", x -> x.drift(20));
        not("thaw()", x -> x.thaw());
        not("snow()", x -> x.snow());
        not("wind(0)", x -> x.wind(0));
        not("wind(4)", x -> x.wind(4));
        not("undo(1)", x -> x.undo(1));
        not("undo(30)", x -> x.undo(30));
        not("goBack(0)", x -> x.goBack(0));
    }

    private static void noCells() {
        for (int c : new int[] {0, 1, -1, 48, MIN, MAX}) {
            unknown("cell(" + c + ", 0)", x -> x.cell(c, 0));
            unknown("cell(" + c + ", 4)", x -> x.cell(c, 4));
            unknown("hare(" + c + ")", x -> x.hare(c));
            unknown("left(" + c + ", 0)", x -> x.left(c, 0));
            unknown("left(" + c + ", 21)", x -> x.left(c, 21));
            unknown("round(" + c + ", 0, 0)", x -> x.round(c, 0, 0));
            unknown("round(" + c + ", 0, 2)", x -> x.round(c, 0, 2));
            unknown("find(" + c + ", true)", x -> x.find(c, true));
            unknown("find(" + c + ", false)", x -> x.find(c, false));
        }
    }

    private static void noPeople() {
        for (int p : new int[] {0, 6, -1, 7, MIN, MAX}) {
            unknown("person(" + p + ", 0)", x -> x.person(p, 0));
            unknown("person(" + p + ", 3)", x -> x.person(p, 3));
            unknown("lie(" + p + ", 0)", x -> x.lie(p, 0));
            unknown("rise(" + p + ")", x -> x.rise(p));
            unknown("canLie(" + p + ", 0)", x -> x.canLie(p, 0));
            unknown("canLie(" + p + ", 4)", x -> x.canLie(p, 4));
        }
        for (int set : new int[] {1, 64, 128, MIN, -1}) {
            unknown("round(0, " + set + ", 0)", x -> x.round(0, set, 0));
            unknown("round(0, " + set + ", 2)", x -> x.round(0, set, 2));
        }
    }

    /** What is OUTSIDE in every state, ahead of NOT and FULL. */
    private static void outsideAlways() {
        for (int v : new int[] {-1, 256, MIN, MAX}) outside("feed(" + v + ")", x -> x.feed(v));
        for (int v : new int[] {-1, 18, MIN, MAX}) outside("told(" + v + ")", x -> x.told(v));
        for (int v : new int[] {0, 21, -1, MIN, MAX}) {
            outside("night(" + v + ")", x -> x.night(v));
            outside("drift(" + v + ")", x -> x.drift(v));
        }
        for (int v : new int[] {-1, 5, MIN, MAX}) outside("wind(" + v + ")", x -> x.wind(v));
        for (int v : new int[] {0, 31, -1, MIN, MAX}) outside("undo(" + v + ")", x -> x.undo(v));
        for (int v : new int[] {-1, 21, MIN, MAX}) outside("willCount(" + v + ")", x -> x.willCount(v));
        for (int v : new int[] {-1, 61, MIN, MAX}) outside("still(" + v + ", 50)", x -> x.still(v, 50));
        for (int v : new int[] {-1, 101, MIN, MAX}) outside("still(1, " + v + ")", x -> x.still(1, v));
        for (int v : new int[] {-1, 3, MIN, MAX}) outside("fits(" + v + ")", x -> x.fits(v));
        for (int v : new int[] {-1, 100, MIN, MAX}) outside("write(" + v + ")", x -> x.write(v));
        for (int v : new int[] {-1, MIN}) outside("seed(" + v + ")", x -> x.seed(v));
        for (int v : new int[] {-1, 2, MIN, MAX}) {
            unknown("keep(" + v + ")", x -> x.keep(v));
            unknown("goBack(" + v + ")", x -> x.goBack(v));
        }
    }

    private static void withoutPeople() {
        in("no PEOPLE", () -> Due.told("n2 3;w2;r0 0;"));
        noPeople();
        not("round(0, 0, 0)", x -> x.round(0, 0, 0));
        outside("round(0, 0, 2)", x -> x.round(0, 0, 2));
        not("hare(0): a ROCK", x -> x.hare(0));
        not("undo(1)", x -> x.undo(1));
        not("goBack(0)", x -> x.goBack(0));
        not("goBack(1)", x -> x.goBack(1));
    }

    private static void lived() {
        in("lived", RefusalsTest::livedOne);
        outsideAlways();
        for (int c : new int[] {-1, 9, MIN, MAX}) {
            unknown("cell(" + c + ", 0)", x -> x.cell(c, 0));
            unknown("cell(" + c + ", -1)", x -> x.cell(c, -1));
            unknown("lie(0, " + c + ")", x -> x.lie(0, c));
            unknown("lie(3, " + c + ")", x -> x.lie(3, c));
            unknown("hare(" + c + ")", x -> x.hare(c));
            unknown("left(" + c + ", 20)", x -> x.left(c, 20));
            unknown("left(" + c + ", -1)", x -> x.left(c, -1));
            unknown("round(" + c + ", 1, 0)", x -> x.round(c, 1, 0));
            unknown("round(" + c + ", 4, 9)", x -> x.round(c, 4, 9));
            unknown("find(" + c + ", true)", x -> x.find(c, true));
        }
        for (int p : new int[] {-1, 3, MIN, MAX}) {
            unknown("person(" + p + ", 1)", x -> x.person(p, 1));
            unknown("person(" + p + ", -1)", x -> x.person(p, -1));
            unknown("lie(" + p + ", 0)", x -> x.lie(p, 0));
            unknown("lie(" + p + ", 8): a ROCK", x -> x.lie(p, 8));
            unknown("rise(" + p + ")", x -> x.rise(p));
            unknown("canLie(" + p + ", 1)", x -> x.canLie(p, 1));
            unknown("canLie(" + p + ", -1)", x -> x.canLie(p, -1));
        }
        for (int set : new int[] {8, 9, 15, 12, MIN, -1}) {
            unknown("round(0, " + set + ", 0)", x -> x.round(0, set, 0));
            unknown("round(0, " + set + ", -1)", x -> x.round(0, set, -1));
        }
        livedOutside();
        livedNot();
    }

    private static void livedOutside() {
        for (int what : new int[] {-1, 4, MIN, MAX}) {
            outside("cell(0, " + what + ")", x -> x.cell(0, what));
            outside("canLie(0, " + what + ")", x -> x.canLie(0, what));
        }
        for (int what : new int[] {-1, 3, MIN, MAX}) outside("person(0, " + what + ")", x -> x.person(0, what));
        for (int n : new int[] {-1, 21, MIN, MAX}) outside("left(0, " + n + ")", x -> x.left(0, n));
        for (int what : new int[] {-1, 2, MIN, MAX}) {
            outside("round(0, 1, " + what + ")", x -> x.round(0, 1, what));
            outside("round(0, 0, " + what + ")", x -> x.round(0, 0, what));
            outside("round(0, 4, " + what + "): lies not", x -> x.round(0, 4, what));
        }
        for (int y : new int[] {-1, 3, MIN, MAX}) outside("pin(" + y + ")", x -> x.pin(y));
    }

    private static void livedNot() {
        not("lie(0, 3): no left", x -> x.lie(0, 3));
        not("lie(0, 5): no right", x -> x.lie(0, 5));
        not("lie(2, 8): a ROCK", x -> x.lie(2, 8));
        not("lie(2, 5): the ROCK below", x -> x.lie(2, 5));
        not("lie(2, 7): nothing below", x -> x.lie(2, 7));
        not("lie(2, 4): a hare below", x -> x.lie(2, 4));
        not("lie(1, 6): where he lies", x -> x.lie(1, 6));
        not("lie(1, 1): where another lies", x -> x.lie(1, 1));
        not("rise(2)", x -> x.rise(2));
        not("hare(8): a ROCK", x -> x.hare(8));
        not("undo(6)", x -> x.undo(6));
        not("undo(30)", x -> x.undo(30));
        not("round(0, 0, 0)", x -> x.round(0, 0, 0));
        not("round(0, 4, 0)", x -> x.round(0, 4, 0));
        not("round(0, 7, 1)", x -> x.round(0, 7, 1));
        not("goBack(1)", x -> x.goBack(1));
    }

    private static void full() {
        in("the text full", RefusalsTest::fullText);
        refused("feed(32)", Due.FULL, x -> x.feed(32));
        refused("feed(0)", Due.FULL, x -> x.feed(0));
        refused("feed(255)", Due.FULL, x -> x.feed(255));
        outside("feed(256)", x -> x.feed(256));
        outside("feed(-1)", x -> x.feed(-1));
        in("the notes full", RefusalsTest::fullNotes);
        refused("find(0, true)", Due.FULL, x -> x.find(0, true));
        refused("find(3, false)", Due.FULL, x -> x.find(3, false));
        unknown("find(4, true)", x -> x.find(4, true));
        unknown("find(-1, false)", x -> x.find(-1, false));
        refused("write(0)", Due.FULL, x -> x.write(0));
        refused("write(99)", Due.FULL, x -> x.write(99));
        outside("write(100)", x -> x.write(100));
        outside("write(-1)", x -> x.write(-1));
        not("round(0, 63, 0): six", x -> x.round(0, 63, 0));
        not("round(0, 127, 0): seven, one lies not", x -> x.round(0, 127, 0));
        outside("round(0, 63, 2)", x -> x.round(0, 63, 2));
        unknown("round(0, 191, 2)", x -> x.round(0, 191, 2));
        not("rise(6)", x -> x.rise(6));
        fullOfDeeds();
    }

    /** 30 deeds are kept: one that is refused must not push out the oldest. */
    private static void fullOfDeeds() {
        in("the deeds full", RefusalsTest::fullDeeds);
        Due.due("deeds", fullDeeds().told(17), 30);
        outside("undo(31)", x -> x.undo(31));
        outside("undo(0)", x -> x.undo(0));
        unknown("lie(1, 0)", x -> x.lie(1, 0));
        unknown("lie(0, 4)", x -> x.lie(0, 4));
        not("lie(0, 3): a ROCK", x -> x.lie(0, 3));
        unknown("rise(1)", x -> x.rise(1));
        unknown("hare(4)", x -> x.hare(4));
        not("hare(3): a ROCK", x -> x.hare(3));
        outside("pin(2)", x -> x.pin(2));
        outside("wind(5)", x -> x.wind(5));
        outside("night(21)", x -> x.night(21));
        outside("drift(21)", x -> x.drift(21));
        not("goBack(0)", x -> x.goBack(0));
        unknown("keep(2)", x -> x.keep(2));
    }

    /** Most of the 512 calls are spent on the nights: what is left is asked sparingly. */
    private static void late() {
        for (int n : new int[] {1, 20, 0, 21}) {
            for (int by = 0; by < 2; by++) {
                WingCensus x = lateOne();
                int got = by == 0 ? x.night(n) : x.drift(n);
                String call = (by == 0 ? "night(" : "drift(") + n + ") at 9001";
                Due.due(call, got, n == 1 || n == 20 ? Due.FULL : Due.OUTSIDE);
                Due.due(call + ": NIGHTS", x.told(5), 9001);
                Due.due(call + ": deeds", x.told(17), 30);
                Due.due(call + ": THE SEED", x.seed(0), 0);
                Due.due(call + ": undo(30)", x.undo(30), 8971);
            }
        }
    }

    private static void question(String call, ToIntFunction<WingCensus> asked) {
        WingCensus x = state.get();
        int first = asked.applyAsInt(x);
        Due.due(stateName + ": " + call + " again", asked.applyAsInt(x), first);
        Due.dueSame(stateName + ": " + call + " changes nothing", Due.spent(x), Due.spent(state.get()));
    }

    private static void questions() {
        Due.says("TRIED from now, as nothing else is done; nothing changes by it");
        in("lived", RefusalsTest::livedOne);
        question("fault()", x -> x.fault());
        for (int k = 0; k <= 17; k++) {
            int what = k;
            question("told(" + k + ")", x -> x.told(what));
        }
        for (int k = 0; k < 4; k++) {
            int what = k;
            question("cell(6, " + k + ")", x -> x.cell(6, what));
            question("canLie(2, " + k + ")", x -> x.canLie(2, what));
            question("canLie(0, " + k + ")", x -> x.canLie(0, what));
        }
        for (int k = 0; k < 3; k++) {
            int what = k;
            question("person(0, " + k + ")", x -> x.person(0, what));
            question("fits(" + k + ")", x -> x.fits(what));
        }
        for (int n : new int[] {0, 1, 20}) {
            question("left(6, " + n + ")", x -> x.left(6, n));
            question("willCount(" + n + ")", x -> x.willCount(n));
            question("still(" + n + ", 50)", x -> x.still(n, 50));
            question("touch(" + (n - 1) + ")", x -> x.touch(n - 1));
        }
        question("wrongFirst()", x -> x.wrongFirst());
        question("round(8, 3, 0)", x -> x.round(8, 3, 0));
        question("round(8, 3, 1)", x -> x.round(8, 3, 1));
        question("look()", x -> x.look());
        question("judge()", x -> x.judge());
    }

    private static void refusalsAsNumbers() {
        Due.says("They are far below all that is counted: -1000000001 and on");
        int[] refusals = {WingCensus.UNKNOWN, WingCensus.OUTSIDE, WingCensus.NOT, WingCensus.FULL};
        for (int i = 0; i < 4; i++) Due.due("refusal " + i, refusals[i], -1000000001 - i);
    }
}
