/** What the tests share: answers compared with those that are due, norths told in one go. */
final class Due {
    static final int NONE = WingCensus.NONE, UNKNOWN = WingCensus.UNKNOWN, OUTSIDE = WingCensus.OUTSIDE, NOT = WingCensus.NOT, FULL = WingCensus.FULL;

    private static int wrong = 0;
    private static int asked = 0;

    private Due() { }

    static void due(String call, int got, int want) {
        asked++;
        if (got != want) {
            wrong++;
            System.out.println(call + " answered " + got + ", due is " + want);
        }
    }

    static void feed(WingCensus x, String text) {
        for (char letter : text.toCharArray()) x.feed(letter);
    }

    /** A new object with the north that is told so; the text must have no fault. */
    static WingCensus told(String text) {
        WingCensus x = new WingCensus();
        feed(x, text);
        int people = x.north();
        if (people < 0) {
            wrong++;
            System.out.println("[" + text + "] has the fault " + people + " at " + x.fault());
        }
        return x;
    }

    /** The dents of all cells, row by row, as figures. */
    static String dents(WingCensus x) {
        StringBuilder all = new StringBuilder();
        for (int c = 0; c < x.told(0) * x.told(1); c++) {
            if (c > 0 && c % x.told(0) == 0) all.append('/');
            all.append(x.cell(c, 0));
        }
        return all.toString();
    }

    static void dueDents(String when, WingCensus x, String want) {
        asked++;
        String got = dents(x);
        if (!got.equals(want)) {
            wrong++;
            System.out.println(when + ": the dents are " + got + ", due is " + want);
        }
    }

    /** All that can be asked without arguments that matter, to see that nothing has changed. */
    static String all(WingCensus x) {
        StringBuilder all = new StringBuilder(dents(x));
        for (int k = 0; k <= 17; k++) all.append(' ').append(x.told(k));
        for (int p = 0; p < x.told(2); p++) all.append(' ').append(x.person(p, 1));
        all.append(' ').append(x.fits(0)).append(' ').append(x.judge());
        return all.toString();
    }

    static void dueSame(String what, String got, String want) {
        asked++;
        if (!got.equals(want)) {
            wrong++;
            System.out.println(what + ": [" + got + "], due is [" + want + "]");
        }
    }

    static void end() {
        System.out.println(wrong == 0 ? asked + " answers are as due" : wrong + " of " + asked + " answers are not as due");
        if (wrong != 0) System.exit(1);
    }
}
