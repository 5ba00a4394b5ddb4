/** No call throws or changes what it must not, whatever it is given, in any state of the object. */
public final class WrongInputsTest {
    private static final int[] ODD = {Integer.MIN_VALUE, Integer.MIN_VALUE + 1, -1000000004, -50, -8, -2, -1, 0, 1, 2, 5, 7, 8, 9, 18, 20, 21, 30, 31, 32,
        48, 49, 60, 61, 63, 64, 99, 100, 127, 128, 239, 255, 256, 1 << 30, Integer.MAX_VALUE - 1, Integer.MAX_VALUE};
    private static final String[] NORTHS = {"", "n2 2;", "n7 7;p0;p1;p2;p3;p4;p0;p2;w4;", "n2 7;p1;p2;r0 0;r1 6;", "n3 3;p3;r0 0;r1 0;r2 0;r0 1;r2 1;r0 2;r1 2;r2 2;"};

    public static void main(String[] args) {
        for (String north : NORTHS) {
            for (int a : ODD) {
                one(north, a);
                for (int b : ODD) two(north, a, b);
            }
            refusedFirst(north);
        }
        Due.end();
    }

    private static WingCensus lived(String north) {
        WingCensus x = Due.told(north);
        x.seed(99);
        for (int p = 0; p < 7; p++) x.lie(p, 8 * p);
        x.drift(20);
        for (int p = 0; p < 7; p++) x.lie(p, 7 * p + 1);
        return x;
    }

    private static void one(String north, int a) {
        WingCensus x = lived(north);
        x.told(a);
        x.rise(a);
        x.night(a);
        x.hare(a);
        x.pin(a);
        x.wind(a);
        x.drift(a);
        x.undo(a);
        x.willCount(a);
        x.touch(a);
        x.find(a, true);
        x.find(a, false);
        x.fits(a);
        x.look();
        x.write(a);
        x.judge();
        x.keep(a);
        x.goBack(a);
        x.seed(a);
        x.drift(3);
        x.thaw();
        x.snow();
        x.wrongFirst();
        x.tear();
        x.feed(a);
        x.feed(a);
        int answer = x.north();
        Due.due("north() of two odd letters", answer == -11 || answer == 0 ? 0 : answer, 0);
        for (int k = 0; k <= 17; k++) x.told(k);
    }

    private static void two(String north, int a, int b) {
        WingCensus x = lived(north);
        x.cell(a, b);
        x.person(a, b);
        x.lie(a, b);
        x.left(a, b);
        x.canLie(a, b);
        int odds = x.still(a, b);
        Due.due("still within bounds", odds == Due.OUTSIDE || odds >= 0 && odds <= 1000000000 ? 0 : 1, 0);
        x.round(a, b, 0);
        x.round(a, b, 1);
        x.round(0, a, b);
        x.round(a, 1, b);
    }

    /** UNKNOWN ahead of OUTSIDE, whatever the other arguments are. */
    private static void refusedFirst(String north) {
        WingCensus x = lived(north);
        for (int a : ODD) {
            boolean cell = a >= 0 && a < x.told(0) * x.told(1);
            boolean person = a >= 0 && a < x.told(2);
            Due.due("cell(" + a + ", 99)", x.cell(a, 99), cell ? Due.OUTSIDE : Due.UNKNOWN);
            Due.due("left(" + a + ", 99)", x.left(a, 99), cell ? Due.OUTSIDE : Due.UNKNOWN);
            Due.due("round(" + a + ", 0, 99)", x.round(a, 0, 99), cell ? Due.OUTSIDE : Due.UNKNOWN);
            Due.due("round(" + a + ", 0, 0)", x.round(a, 0, 0), cell ? Due.NOT : Due.UNKNOWN);
            Due.due("person(" + a + ", 99)", x.person(a, 99), person ? Due.OUTSIDE : Due.UNKNOWN);
            Due.due("canLie(" + a + ", 99)", x.canLie(a, 99), person ? Due.OUTSIDE : Due.UNKNOWN);
        }
    }
}
