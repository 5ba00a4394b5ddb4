/** What the tests share: answers compared with those that are due, norths told in one go. */
final class Due {
    static final int NONE = WingCensus.NONE, UNKNOWN = WingCensus.UNKNOWN, OUTSIDE = WingCensus.OUTSIDE, NOT = WingCensus.NOT, FULL = WingCensus.FULL;

    private static int wrong = 0;
    private static int asked = 0;
    private static String sentence = "";

    private Due() { }

    /** The sentence of the document that the answers from here on belong to; it is told with those that are wrong. */
    static void says(String words) {
        sentence = "\"" + words + "\": ";
    }

    static void due(String call, int got, int want) {
        asked++;
        if (got != want) {
            wrong++;
            System.out.println(sentence + call + " answered " + got + ", due is " + want);
        }
    }

    static void feed(WingCensus x, String text) {
        for (char letter : text.toCharArray()) x.feed(letter);
    }

    /** A new object with the north that is told so; the text must have no fault. */
    static WingCensus told(String text) {
        WingCensus x = new WingCensus();
        feed(x, text);
        int people = x.north();
        if (people < 0) {
            wrong++;
            System.out.println(sentence + "[" + text + "] has the fault " + people + " at " + x.fault());
        }
        return x;
    }

    /** The dents of all cells, row by row, as figures. */
    static String dents(WingCensus x) {
        StringBuilder all = new StringBuilder();
        int across = x.told(0);
        int cells = across * x.told(1);
        for (int c = 0; c < cells; c++) {
            if (c > 0 && c % across == 0) all.append('/');
            all.append(x.cell(c, 0));
        }
        return all.toString();
    }

    static void dueDents(String when, WingCensus x, String want) {
        asked++;
        String got = dents(x);
        if (!got.equals(want)) {
            wrong++;
            System.out.println(sentence + when + ": the dents are " + got + ", due is " + want);
        }
    }

    /** All that can be asked without arguments that matter, to see that nothing has changed. */
    static String all(WingCensus x) {
        StringBuilder all = new StringBuilder(dents(x));
        for (int k = 0; k <= 17; k++) all.append(' ').append(x.told(k));
        int people = x.told(2);
        for (int p = 0; p < people; p++) all.append(' ').append(x.person(p, 1));
        all.append(' ').append(x.fits(0)).append(' ').append(x.judge());
        return all.toString();
    }

    /**
     * All that an object holds, what can be undone, the images and the text's letters too. The object is spent by it:
     * two objects that were made alike are compared.
     */
    static String spent(WingCensus x) {
        StringBuilder all = new StringBuilder(all(x)).append(" fault ").append(x.fault());
        all.append(" fits ").append(x.fits(1)).append(' ').append(x.fits(2)).append(' ').append(x.look());
        int seed = x.seed(0);
        x.seed(seed);
        all.append(" seed ").append(seed);
        int deeds = x.told(17);
        for (int i = 0; i < deeds; i++) all.append("\nundone ").append(x.undo(1)).append(' ').append(deedsLeft(x));
        for (int i = 0; i < 2; i++) all.append("\nimage ").append(x.goBack(i)).append(' ').append(deedsLeft(x)).append(' ').append(x.seed(0));
        return all.append("\ntext ").append(x.north()).append(' ').append(x.fault()).append(' ').append(x.told(0)).toString();
    }

    /** What deeds change: the dents, the nights, the wind, who lies where. */
    static String deedsLeft(WingCensus x) {
        StringBuilder all = new StringBuilder(dents(x)).append(' ').append(x.told(5)).append(' ').append(x.told(6));
        int people = x.told(2);
        for (int p = 0; p < people; p++) all.append(' ').append(x.person(p, 1));
        return all.toString();
    }

    static void dueSame(String what, String got, String want) {
        asked++;
        if (!got.equals(want)) {
            wrong++;
            System.out.println(sentence + what + ": [" + got + "], due is [" + want + "]");
        }
    }

    static void end() {
        System.out.println(wrong == 0 ? asked + " answers are as due" : wrong + " of " + asked + " answers are not as due");
        if (wrong != 0) System.exit(1);
    }
}
