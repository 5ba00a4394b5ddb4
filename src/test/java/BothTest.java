import java.util.Random;

/** Runs of calls by a fixed seed on WingCensus and on SlowCensus: every answer must be the same. */
public final class BothTest {
    private static final int[] ODD = {-1, -2, Integer.MIN_VALUE, Integer.MAX_VALUE, 49, 50, 21, 31, 61, 101, 256, 100, -1000000001};

    private final Random random;
    private final WingCensus quick = new WingCensus();
    private final SlowCensus slow = new SlowCensus();
    private final StringBuilder calls = new StringBuilder();
    private int made;
    private int wrong;

    private BothTest(long seed) { random = new Random(seed); }

    /** Nothing is promised about an object after its 512th call. */
    private boolean canAsk(int more) { return made + more <= 512; }

    private void same(String call, int got, int want) {
        made++;
        calls.append(call).append(" = ").append(want).append('\n');
        if (got != want) {
            wrong++;
            if (wrong == 1) System.out.println(calls + "^ WingCensus answered " + got);
        }
    }

    /** Mostly 0 .. n - 1, now and then something else. */
    private int some(int n) {
        int r = random.nextInt(24);
        if (r == 0) return ODD[random.nextInt(ODD.length)];
        if (r == 1) return n;
        return random.nextInt(Math.max(1, n));
    }

    private void feed(String text) {
        for (char ch : text.toCharArray()) if (canAsk(1)) same("feed(" + (int) ch + ")", quick.feed(ch), slow.feed(ch));
    }

    private String blank() { return random.nextInt(6) == 0 ? " " : ""; }

    private String figures(int n) { return random.nextInt(12) == 0 ? "0" + n : "" + n; }

    private String goodText() {
        int w = 2 + random.nextInt(6), h = 2 + random.nextInt(6);
        StringBuilder t = new StringBuilder(blank() + "n" + blank() + figures(w) + " " + figures(h) + blank() + ";");
        int people = random.nextInt(8), rocks = random.nextInt(3) == 0 ? 0 : random.nextInt(5);
        for (int i = 0; i < people; i++) t.append("p").append(blank()).append(random.nextInt(5)).append(";").append(blank());
        if (random.nextBoolean()) t.append("w").append(random.nextInt(5)).append(";");
        java.util.TreeSet<Integer> told = new java.util.TreeSet<>();
        for (int i = 0; i < rocks; i++) {
            int x = random.nextInt(w), y = random.nextInt(h);
            if (told.add(x + w * y)) t.append("r").append(x).append(" ").append(y).append(";");
        }
        return t.toString();
    }

    private String spoilt(String text) {
        StringBuilder t = new StringBuilder(text);
        int changes = 1 + random.nextInt(2);
        String letters = "npwr;0123456789  xN";
        for (int i = 0; i < changes && t.length() > 0; i++) {
            int at = random.nextInt(t.length());
            char ch = letters.charAt(random.nextInt(letters.length()));
            switch (random.nextInt(4)) {
                case 0 -> t.deleteCharAt(at);
                case 1 -> t.setCharAt(at, ch);
                case 2 -> t.insert(at, ch);
                default -> t.setLength(at);
            }
        }
        return t.toString();
    }

    private String manyClauses() {
        StringBuilder t = new StringBuilder("n7 7;");
        for (int i = 0; i < 12; i++) {
            switch (random.nextInt(8)) {
                case 0, 1, 2 -> t.append("p").append(random.nextInt(5)).append(";");
                case 3 -> t.append("w").append(random.nextInt(5)).append(";");
                default -> t.append("r").append(random.nextInt(7)).append(" ").append(random.nextInt(7)).append(";");
            }
        }
        return t.toString();
    }

    private void tellNorth() {
        int r = random.nextInt(10);
        String text = r == 0 ? "" : r == 1 ? "  " : r < 5 ? spoilt(goodText()) : r < 7 ? manyClauses() : goodText();
        feed(text);
        if (!canAsk(2)) return;
        same("north() of [" + text + "]", quick.north(), slow.north());
        same("fault()", quick.fault(), slow.fault());
    }

    private void compareAll() {
        for (int k = -1; k <= 18 && canAsk(1); k++) same("told(" + k + ")", quick.told(k), slow.told(k));
        int k = random.nextInt(4);
        for (int c = -1; c <= slow.told(0) * slow.told(1) && canAsk(1); c++) same("cell(" + c + ", " + k + ")", quick.cell(c, k), slow.cell(c, k));
        for (int p = -1; p <= slow.told(2) && canAsk(1); p++) same("person(" + p + ", " + k + ")", quick.person(p, k), slow.person(p, k));
    }

    private void deed() {
        int cells = slow.told(0) * slow.told(1), people = slow.told(2);
        switch (random.nextInt(24)) {
            case 0, 1, 2, 3, 4, 5, 6 -> { int p = some(people), c = some(cells); same("lie(" + p + ", " + c + ")", quick.lie(p, c), slow.lie(p, c)); }
            case 7 -> { int p = some(people); same("rise(" + p + ")", quick.rise(p), slow.rise(p)); }
            case 8, 9, 10 -> { int n = random.nextInt(8) == 0 ? some(21) : 1 + random.nextInt(2); same("night(" + n + ")", quick.night(n), slow.night(n)); }
            case 11 -> same("thaw()", quick.thaw(), slow.thaw());
            case 12 -> same("snow()", quick.snow(), slow.snow());
            case 13, 14, 15, 16 -> { int c = some(cells); same("hare(" + c + ")", quick.hare(c), slow.hare(c)); }
            case 17 -> { int y = some(slow.told(1)); same("pin(" + y + ")", quick.pin(y), slow.pin(y)); }
            case 18, 19 -> { int d = some(5); same("wind(" + d + ")", quick.wind(d), slow.wind(d)); }
            case 20 -> { int n = random.nextInt(3) == 0 ? some(21) : 1 + random.nextInt(4); same("drift(" + n + ")", quick.drift(n), slow.drift(n)); }
            case 21 -> { int n = random.nextInt(3) == 0 ? some(31) : 1 + random.nextInt(4); same("undo(" + n + ")", quick.undo(n), slow.undo(n)); }
            case 22 -> { int i = some(2); same("keep(" + i + ")", quick.keep(i), slow.keep(i)); }
            default -> { int i = some(2); same("goBack(" + i + ")", quick.goBack(i), slow.goBack(i)); }
        }
    }

    private void question() {
        int cells = slow.told(0) * slow.told(1), people = slow.told(2);
        switch (random.nextInt(12)) {
            case 0 -> { int c = some(cells), n = some(21); same("left(" + c + ", " + n + ")", quick.left(c, n), slow.left(c, n)); }
            case 1 -> { int n = some(21); same("willCount(" + n + ")", quick.willCount(n), slow.willCount(n)); }
            case 2 -> same("wrongFirst()", quick.wrongFirst(), slow.wrongFirst());
            case 3, 4 -> { int p = some(people), k = some(4); same("canLie(" + p + ", " + k + ")", quick.canLie(p, k), slow.canLie(p, k)); }
            case 5 -> { int c = some(cells), set = roundSet(people), k = some(2); same("round(" + c + ", " + set + ", " + k + ")", quick.round(c, set, k), slow.round(c, set, k)); }
            case 6 -> { int i = some(5) - 1; same("touch(" + i + ")", quick.touch(i), slow.touch(i)); }
            case 7 -> { int n = some(61), q = random.nextBoolean() ? some(101) : 90 + random.nextInt(11); same("still(" + n + ", " + q + ")", quick.still(n, q), slow.still(n, q)); }
            case 8 -> { int c = some(cells); boolean d = random.nextInt(3) == 0; same("find(" + c + ", " + d + ")", quick.find(c, d), slow.find(c, d)); }
            case 9 -> { int k = some(3); same("fits(" + k + ")", quick.fits(k), slow.fits(k)); same("look()", quick.look(), slow.look()); }
            case 10 -> { int n = random.nextInt(4) == 0 ? some(100) : slow.told(8); same("write(" + n + ")", quick.write(n), slow.write(n)); same("judge()", quick.judge(), slow.judge()); }
            default -> {
                if (random.nextInt(4) == 0) same("tear()", quick.tear(), slow.tear());
                if (random.nextInt(2) == 0) { int v = random.nextInt(); same("seed(" + v + ")", quick.seed(v), slow.seed(v)); }
            }
        }
    }

    private int roundSet(int people) {
        int lying = slow.told(7);
        int r = random.nextInt(10);
        if (r == 0) return random.nextInt();
        if (r == 1) return random.nextInt(1 << people);
        return lying & random.nextInt(128);
    }

    private int play() {
        if (random.nextInt(6) != 0) tellNorth();
        while (canAsk(2)) {
            if (random.nextInt(2) == 0) deed(); else question();
            if (random.nextInt(60) == 0) tellNorth();
            if (random.nextInt(60) == 0) compareAll();
        }
        return wrong;
    }

    public static void main(String[] args) {
        int runs = args.length > 0 ? Integer.parseInt(args[0]) : 2500;
        int bad = 0;
        for (int seed = 0; seed < runs && bad < 3; seed++) if (new BothTest(seed).play() != 0) bad++;
        System.out.println(bad == 0 ? "both answer alike" : "both do not answer alike");
        if (bad != 0) System.exit(1);
    }
}
