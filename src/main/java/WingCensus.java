import java.util.Arrays;

/**
 * The census by snow angels: a north of cells told in a text, people who lie down in its snow, and
 * what an officer can tell by what is left.
 *
 * <p>Sets of cells are held as the bits of a long (49 cells at most), so that "side by side" is a
 * shift. All rows are made in the constructors: no call makes an object.
 */
public final class WingCensus {
    public static final int NONE = -1, UNKNOWN = -1000000001, OUTSIDE = -1000000002, NOT = -1000000003, FULL = -1000000004;

    private static final int MOST_CELLS = 49;
    private static final int MOST_PEOPLE = 7;
    private static final int MOST_ROCKS = 8;
    private static final int MOST_LETTERS = 240;
    private static final int MOST_FIGURES = 3;
    private static final int LEAST_SIDE = 2;
    private static final int MOST_SIDE = 7;
    private static final int KINDS = 5;
    private static final int WITH_CHILD = 2;
    private static final int WINDS = 5;
    private static final int DEEPEST = 9;
    private static final int SEEN_FROM = 3;
    private static final int MOST_NIGHTS_A_CALL = 20;
    private static final int LAST_NIGHT = 9000;
    private static final int MOST_TRIED = 20;
    private static final int MOST_STILL = 60;
    private static final int MOST_ON_ROUND = 5;
    private static final int MOST_FOUND = 6;
    private static final int MOST_ENTRIES = 20;
    private static final int MOST_COUNT_WRITTEN = 99;
    private static final int MOST_DEEDS = 30;
    private static final int IMAGES = 2;
    private static final int FIRST_FAULT = -10;
    private static final long BILLION = 1000000000L;

    /** Above every order of a round, so that steps and order fit into one number that compares as both. */
    private static final long STEP = 1000000L;

    /** By kind: bit d for the cell that lies one step in the direction d (as winds blow) from the person's own. */
    private static final int[] LIMBS = {0b01010, 0b11010, 0b00100, 0b00000, 0b00010};

    private final Reader text;
    private Land land;
    private Land draft;
    private final Field now;
    private final Field tried;
    private final Shelf deeds;
    private int firstDeed;
    private int deedCount;
    private final Shelf images;
    private final int[] imageSeeds;
    private final boolean[] imageKept;
    private final Notebook notes;
    private final int[] tally;
    private int theSeed;

    public WingCensus() {
        text = new Reader();
        land = new Land();
        draft = new Land();
        now = new Field();
        tried = new Field();
        deeds = new Shelf(MOST_DEEDS);
        images = new Shelf(IMAGES);
        imageSeeds = new int[IMAGES];
        imageKept = new boolean[IMAGES];
        notes = new Notebook();
        tally = new int[MOST_CELLS];
    }

    // ---- the north

    public int feed(int letter) {
        if (letter < 0 || letter > 255) {
            return OUTSIDE;
        }
        return text.add(letter);
    }

    public int north() {
        text.readInto(draft);
        if (text.faultNumber != 0) {
            return FIRST_FAULT - text.faultNumber;
        }
        Land former = land;
        land = draft;
        draft = former;
        now.begin(land.toldWind);
        notes.empty();
        forgetDeeds();
        for (int i = 0; i < IMAGES; i++) {
            imageKept[i] = false;
        }
        return land.people;
    }

    public int fault() {
        return text.faultPlace;
    }

    public int told(int what) {
        switch (what) {
            case 0: return land.across;
            case 1: return land.down;
            case 2: return land.people;
            case 3: return Long.bitCount(land.rocks);
            case 4: return text.length;
            case 5: return now.nights;
            case 6: return now.wind;
            case 7: return whoLies();
            case 8: return countNow();
            case 9: return truth();
            case 10: return land.groupsIn(now.seen());
            case 11: return land.greatestIn(now.seen());
            case 12: return land.forgedIn(now.seen());
            case 13: return farOut();
            case 14: return bare();
            case 15: return notes.found;
            case 16: return notes.written;
            case 17: return deedCount;
            default: return OUTSIDE;
        }
    }

    public int cell(int c, int what) {
        if (!isCell(c)) {
            return UNKNOWN;
        }
        switch (what) {
            case 0: return now.dents[c];
            case 1: return land.isRock(c) ? 1 : 0;
            case 2: return Long.bitCount(land.groupOf(1L << c, now.seen()));
            case 3: return whoIsAt(c);
            default: return OUTSIDE;
        }
    }

    public int person(int p, int what) {
        if (!isPerson(p)) {
            return UNKNOWN;
        }
        switch (what) {
            case 0: return land.kinds[p];
            case 1: return now.at[p];
            case 2: return Long.bitCount(shapeLeftBy(p) & now.seen());
            default: return OUTSIDE;
        }
    }

    // ---- deeds

    public int lie(int p, int c) {
        if (!isPerson(p) || !isCell(c)) {
            return UNKNOWN;
        }
        if (!has(roomFor(p), c)) {
            return NOT;
        }
        remember();
        layDown(p, c);
        return Long.bitCount(land.shape(land.kinds[p], c));
    }

    public int rise(int p) {
        if (!isPerson(p)) {
            return UNKNOWN;
        }
        int c = now.at[p];
        if (c == NONE) {
            return NOT;
        }
        remember();
        now.at[p] = NONE;
        return c;
    }

    public int night(int n) {
        int refusal = refusalOfNights(n);
        if (refusal != 0) {
            return refusal;
        }
        for (int i = 0; i < n; i++) {
            remember();
            now.passNight(land);
        }
        return countNow();
    }

    public int thaw() {
        if (!hasNorth()) {
            return NOT;
        }
        remember();
        now.melt();
        return countNow();
    }

    public int snow() {
        if (!hasNorth()) {
            return NOT;
        }
        remember();
        now.snowOver();
        return countNow();
    }

    public int hare(int c) {
        if (!isCell(c)) {
            return UNKNOWN;
        }
        if (land.isRock(c)) {
            return NOT;
        }
        remember();
        now.cross(c);
        return now.dents[c];
    }

    public int pin(int y) {
        if (y < 0 || y >= land.down) {
            return OUTSIDE;
        }
        remember();
        now.roll(land.row(y) & ~land.rocks);
        return countNow();
    }

    public int wind(int d) {
        if (d < 0 || d >= WINDS) {
            return OUTSIDE;
        }
        if (!hasNorth()) {
            return NOT;
        }
        remember();
        int former = now.wind;
        now.wind = d;
        return former;
    }

    public int drift(int n) {
        int refusal = refusalOfNights(n);
        if (refusal != 0) {
            return refusal;
        }
        for (int i = 0; i < n; i++) {
            remember();
            happenByDraw();
            now.passNight(land);
        }
        return countNow();
    }

    public int undo(int n) {
        if (n < 1 || n > MOST_DEEDS) {
            return OUTSIDE;
        }
        if (n > deedCount) {
            return NOT;
        }
        deedCount -= n;
        deeds.take(placeOfDeed(deedCount), now);
        return now.nights;
    }

    // ---- tried

    public int left(int c, int n) {
        if (!isCell(c)) {
            return UNKNOWN;
        }
        if (!canTry(n)) {
            return OUTSIDE;
        }
        tryNights(n);
        return tried.dents[c];
    }

    public int willCount(int n) {
        if (!canTry(n)) {
            return OUTSIDE;
        }
        tryNights(n);
        return land.countOf(tried.seen());
    }

    public int wrongFirst() {
        int truth = truth();
        tried.become(now);
        for (int n = 0; n <= MOST_TRIED; n++) {
            if (land.countOf(tried.seen()) != truth) {
                return n;
            }
            tried.passNight(land);
        }
        return NONE;
    }

    public int canLie(int p, int what) {
        if (!isPerson(p)) {
            return UNKNOWN;
        }
        switch (what) {
            case 0: return Long.bitCount(roomFor(p));
            case 1: return leastOf(roomFor(p));
            case 2: return bestRoomFor(p, 1);
            case 3: return bestRoomFor(p, -1);
            default: return OUTSIDE;
        }
    }

    public int round(int c, int set, int what) {
        if (!isCell(c) || (set & ~everybody()) != 0) {
            return UNKNOWN;
        }
        if (what != 0 && what != 1) {
            return OUTSIDE;
        }
        int many = Integer.bitCount(set);
        if (many < 1 || many > MOST_ON_ROUND || (set & ~whoLies()) != 0) {
            return NOT;
        }
        long best = shortestRound(land, now.at, c, set, many);
        return (int) (what == 0 ? best / STEP : best % STEP);
    }

    public int touch(int i) {
        int pairs = 0;
        for (int a = 0; a < land.people; a++) {
            long reach = land.grown(shapeLeftBy(a));
            for (int b = a + 1; b < land.people; b++) {
                if ((reach & shapeLeftBy(b)) != 0) {
                    if (pairs == i) {
                        return 10 * a + b;
                    }
                    pairs++;
                }
            }
        }
        return i == NONE ? pairs : NONE;
    }

    public int still(int n, int q) {
        if (n < 0 || n > MOST_STILL || q < 0 || q > 100) {
            return OUTSIDE;
        }
        long odds = BILLION;
        for (int i = 0; i < n; i++) {
            odds = odds * q / 100;
        }
        return (int) odds;
    }

    // ---- what was found

    public int find(int c, boolean dented) {
        if (!isCell(c)) {
            return UNKNOWN;
        }
        return notes.addFound(c, dented);
    }

    public int fits(int what) {
        switch (what) {
            case 0: return howManyFit();
            case 1: return leastFit();
            case 2: return kindsThatFit();
            default: return OUTSIDE;
        }
    }

    public int look() {
        int all = howManyFit();
        tallyFits();
        int best = NONE;
        int bestPart = all;
        for (int c = 0; c < land.cells(); c++) {
            int greater = Math.max(tally[c], all - tally[c]);
            if (greater < bestPart) {
                best = c;
                bestPart = greater;
            }
        }
        return best;
    }

    public int write(int count) {
        if (count < 0 || count > MOST_COUNT_WRITTEN) {
            return OUTSIDE;
        }
        return notes.addEntry(count);
    }

    public int judge() {
        return notes.firstOtherThan(countNow());
    }

    public int tear() {
        int both = notes.found + notes.written;
        notes.empty();
        return both;
    }

    // ---- images

    public int seed(int v) {
        if (v < 0) {
            return OUTSIDE;
        }
        int former = theSeed;
        theSeed = v;
        return former;
    }

    public int keep(int i) {
        if (!isImage(i)) {
            return UNKNOWN;
        }
        images.put(i, now);
        imageSeeds[i] = theSeed;
        imageKept[i] = true;
        forgetDeeds();
        return 1;
    }

    public int goBack(int i) {
        if (!isImage(i)) {
            return UNKNOWN;
        }
        if (!imageKept[i]) {
            return NOT;
        }
        images.take(i, now);
        theSeed = imageSeeds[i];
        forgetDeeds();
        return 1;
    }

    // ---- sets of cells

    private static boolean has(long cells, int c) {
        return c >= 0 && c < MOST_CELLS && (cells >>> c & 1) != 0;
    }

    private static int leastOf(long cells) {
        return cells == 0 ? NONE : Long.bitCount((cells & -cells) - 1);
    }

    // ---- what there is

    private boolean hasNorth() {
        return land.across > 0;
    }

    private boolean isCell(int c) {
        return c >= 0 && c < land.cells();
    }

    private boolean isPerson(int p) {
        return p >= 0 && p < land.people;
    }

    private boolean isImage(int i) {
        return i >= 0 && i < IMAGES;
    }

    private int everybody() {
        return (1 << land.people) - 1;
    }

    private int whoLies() {
        int set = 0;
        for (int p = 0; p < land.people; p++) {
            if (now.at[p] != NONE) {
                set |= 1 << p;
            }
        }
        return set;
    }

    private int whoIsAt(int c) {
        for (int p = 0; p < land.people; p++) {
            if (now.at[p] == c) {
                return p;
            }
        }
        return NONE;
    }

    /** The cells of the shape of a person who lies; none of one who lies nowhere. */
    private long shapeLeftBy(int p) {
        return now.at[p] == NONE ? 0L : land.shape(land.kinds[p], now.at[p]);
    }

    private int countNow() {
        return land.countOf(now.seen());
    }

    private int truth() {
        int many = 0;
        for (int p = 0; p < land.people; p++) {
            if (now.at[p] != NONE) {
                many += land.kinds[p] == WITH_CHILD ? 2 : 1;
            }
        }
        return many;
    }

    private int farOut() {
        int farthest = NONE;
        int most = NONE;
        for (int p = 0; p < land.people; p++) {
            int nearest = stepsToNearest(p);
            if (nearest > most) {
                farthest = p;
                most = nearest;
            }
        }
        return farthest;
    }

    /** NONE, if the person or everybody else lies nowhere. */
    private int stepsToNearest(int p) {
        int nearest = NONE;
        for (int other = 0; other < land.people; other++) {
            if (other != p && now.at[p] != NONE && now.at[other] != NONE) {
                int steps = land.steps(now.at[p], now.at[other]);
                nearest = nearest == NONE ? steps : Math.min(nearest, steps);
            }
        }
        return nearest;
    }

    // ---- how deeds are done and undone

    private int refusalOfNights(int n) {
        if (n < 1 || n > MOST_NIGHTS_A_CALL) {
            return OUTSIDE;
        }
        if (!hasNorth()) {
            return NOT;
        }
        return now.nights > LAST_NIGHT ? FULL : 0;
    }

    private void layDown(int p, int c) {
        now.at[p] = c;
        now.press(land.shape(land.kinds[p], c));
    }

    /** The deed to come can be undone; beyond the most that are kept, the oldest goes. */
    private void remember() {
        if (deedCount == MOST_DEEDS) {
            firstDeed = (firstDeed + 1) % MOST_DEEDS;
            deedCount--;
        }
        deeds.put(placeOfDeed(deedCount), now);
        deedCount++;
    }

    private int placeOfDeed(int i) {
        return (firstDeed + i) % MOST_DEEDS;
    }

    private void forgetDeeds() {
        firstDeed = 0;
        deedCount = 0;
    }

    private int draw(int n) {
        theSeed = (theSeed * 1103515245 + 12345) & 0x7fffffff;
        return n < 1 ? 0 : theSeed / 65536 % n;
    }

    private void happenByDraw() {
        switch (draw(8)) {
            case 0:
                lieByDraw();
                break;
            case 1:
                hareByDraw();
                break;
            case 2:
                now.snowOver();
                break;
            case 3:
                now.wind = draw(WINDS);
                break;
            default:
                break;
        }
    }

    private void lieByDraw() {
        if (land.people == 0) {
            return;
        }
        int p = draw(land.people);
        int c = draw(land.cells());
        if (has(roomFor(p), c)) {
            layDown(p, c);
        }
    }

    private void hareByDraw() {
        int c = draw(land.cells());
        if (!land.isRock(c)) {
            now.cross(c);
        }
    }

    // ---- how things are tried

    private boolean canTry(int n) {
        return n >= 0 && n <= MOST_TRIED;
    }

    private void tryNights(int n) {
        tried.become(now);
        for (int i = 0; i < n; i++) {
            tried.passNight(land);
        }
    }

    private int bare() {
        tried.become(now);
        int n = 0;
        while (n < DEEPEST && tried.dented() != 0) {
            tried.passNight(land);
            n++;
        }
        return n;
    }

    /** All cells where a person can lie now. */
    private long roomFor(int p) {
        long dented = now.dented();
        long room = 0;
        for (int c = 0; c < land.cells(); c++) {
            long shape = land.shape(land.kinds[p], c);
            if (shape != 0 && (shape & dented) == 0) {
                room |= 1L << c;
            }
        }
        return room;
    }

    /** The cell where to lie so that the count is most (sign 1) or least (sign -1). */
    private int bestRoomFor(int p, int sign) {
        long room = roomFor(p);
        long seen = now.seen();
        int best = NONE;
        int bestCount = 0;
        for (int c = 0; c < land.cells(); c++) {
            if (has(room, c)) {
                int count = sign * land.countOf(seen | land.shape(land.kinds[p], c));
                if (best == NONE || count > bestCount) {
                    best = c;
                    bestCount = count;
                }
            }
        }
        return best;
    }

    /**
     * Steps times STEP, and the order: the least of such numbers has fewest steps, then the least order. The depth is
     * how many are still to be seen.
     */
    private static long shortestRound(Land land, int[] at, int from, int set, int many) {
        if (many < 1 || many > MOST_ON_ROUND) {
            return 0;
        }
        long place = tenToThe(many - 1);
        long best = NONE;
        for (int p = 0; p < land.people && p < at.length; p++) {
            if ((set >> p & 1) != 0) {
                long steps = land.steps(from, at[p]);
                long rest = shortestRound(land, at, at[p], set & ~(1 << p), many - 1);
                long whole = steps * STEP + (p + 1) * place + rest;
                best = best == NONE ? whole : Math.min(best, whole);
            }
        }
        return best;
    }

    private static long tenToThe(int power) {
        long ten = 1;
        for (int i = 0; i < power; i++) {
            ten *= 10;
        }
        return ten;
    }

    // ---- who it was, by what was found

    private boolean fitsFound(int kind, int c) {
        long shape = land.shape(kind, c);
        return shape != 0 && notes.agreesWith(shape);
    }

    private int howManyFit() {
        int many = 0;
        for (int kind = 0; kind < KINDS; kind++) {
            many += howManyOfKindFit(kind);
        }
        return many;
    }

    private int howManyOfKindFit(int kind) {
        int many = 0;
        for (int c = 0; c < land.cells(); c++) {
            if (fitsFound(kind, c)) {
                many++;
            }
        }
        return many;
    }

    /** By cell: how many of the pairs that fit have it dented. */
    private void tallyFits() {
        Arrays.fill(tally, 0);
        for (int kind = 0; kind < KINDS; kind++) {
            for (int c = 0; c < land.cells(); c++) {
                if (fitsFound(kind, c)) {
                    tallyCells(land.shape(kind, c));
                }
            }
        }
    }

    private void tallyCells(long cells) {
        for (int c = 0; c < MOST_CELLS; c++) {
            if (has(cells, c)) {
                tally[c]++;
            }
        }
    }

    private int leastFit() {
        for (int kind = 0; kind < KINDS; kind++) {
            for (int c = 0; c < land.cells(); c++) {
                if (fitsFound(kind, c)) {
                    return 100 * kind + c;
                }
            }
        }
        return NONE;
    }

    private int kindsThatFit() {
        int set = 0;
        for (int kind = 0; kind < KINDS; kind++) {
            if (howManyOfKindFit(kind) > 0) {
                set |= 1 << kind;
            }
        }
        return set;
    }

    /** What the text tells: the cells, the rocks, the people by kind; and what follows from these. */
    private static final class Land {
        private int across;
        private int down;
        private int people;
        private int toldWind;
        private long all;
        private long leftEdge;
        private long rightEdge;
        private long rocks;
        private final int[] kinds = new int[MOST_PEOPLE];
        /** By kind and cell; no cells where nobody of that kind can ever lie. */
        private final long[] shapes = new long[KINDS * MOST_CELLS];

        private void clear() {
            across = 0;
            down = 0;
            people = 0;
            toldWind = 0;
            all = 0;
            leftEdge = 0;
            rightEdge = 0;
            rocks = 0;
            Arrays.fill(shapes, 0L);
        }

        private void measure(int w, int h) {
            across = w;
            down = h;
            all = (1L << (w * h)) - 1;
            for (int y = 0; y < h; y++) {
                leftEdge |= 1L << (w * y);
                rightEdge |= 1L << (w * y + w - 1);
            }
        }

        private int cells() {
            return across * down;
        }

        private boolean isRock(int c) {
            return has(rocks, c);
        }

        private long row(int y) {
            return ((1L << across) - 1) << (across * y);
        }

        /** The cells one step on, as the wind d blows; those that leave the field are lost. */
        private long moved(long cells, int d) {
            switch (d) {
                case 1: return (cells & ~rightEdge) << 1;
                case 2: return (cells << across) & all;
                case 3: return (cells & ~leftEdge) >>> 1;
                case 4: return cells >>> across;
                default: return 0L;
            }
        }

        private long grown(long cells) {
            return cells | moved(cells, 1) | moved(cells, 2) | moved(cells, 3) | moved(cells, 4);
        }

        private int steps(int a, int b) {
            if (across < 1) {
                return 0;
            }
            return Math.abs(a % across - b % across) + Math.abs(a / across - b / across);
        }

        /** The cells of a shape; none, if one of them is not there or a rock. */
        private long shape(int kind, int c) {
            if (kind < 0 || kind >= KINDS || c < 0 || c >= MOST_CELLS) {
                return 0L;
            }
            return shapes[kind * MOST_CELLS + c];
        }

        private void drawShapes() {
            for (int kind = 0; kind < KINDS; kind++) {
                for (int c = 0; c < cells() && c < MOST_CELLS; c++) {
                    shapes[kind * MOST_CELLS + c] = drawnShape(kind, c);
                }
            }
        }

        private long drawnShape(int kind, int c) {
            long own = 1L << c;
            long shape = own;
            for (int d = 1; d < WINDS; d++) {
                if ((LIMBS[kind] >> d & 1) != 0) {
                    long limb = moved(own, d);
                    if (limb == 0) {
                        return 0L;
                    }
                    shape |= limb;
                }
            }
            return (shape & rocks) == 0 ? shape : 0L;
        }

        /** The cells that hang together with those of the start that are seen. */
        private long groupOf(long start, long seen) {
            long group = start & seen;
            for (int i = 0; i < MOST_CELLS; i++) {
                long wider = grown(group) & seen;
                if (wider == group) {
                    return group;
                }
                group = wider;
            }
            return group;
        }

        private long firstGroup(long seen) {
            return groupOf(seen & -seen, seen);
        }

        private int groupsIn(long seen) {
            long rest = seen;
            int groups = 0;
            while (groups < MOST_CELLS && rest != 0) {
                rest &= ~firstGroup(rest);
                groups++;
            }
            return groups;
        }

        private int countOf(long seen) {
            long rest = seen;
            int count = 0;
            for (int i = 0; i < MOST_CELLS && rest != 0; i++) {
                long group = firstGroup(rest);
                count += countedAs(Long.bitCount(group));
                rest &= ~group;
            }
            return count;
        }

        private int countedAs(int cells) {
            if (cells <= 2) {
                return cells;
            }
            return cells <= 4 ? 1 : cells / 3 + 1;
        }

        private int greatestIn(long seen) {
            long rest = seen;
            int begins = NONE;
            int most = 0;
            for (int i = 0; i < MOST_CELLS && rest != 0; i++) {
                long group = firstGroup(rest);
                if (Long.bitCount(group) > most) {
                    begins = leastOf(group);
                    most = Long.bitCount(group);
                }
                rest &= ~group;
            }
            return begins;
        }

        private int forgedIn(long seen) {
            long rest = seen;
            int forged = 0;
            for (int i = 0; i < MOST_CELLS && rest != 0; i++) {
                long group = firstGroup(rest);
                if (!isShape(group)) {
                    forged++;
                }
                rest &= ~group;
            }
            return forged;
        }

        private boolean isShape(long group) {
            for (int i = 0; i < shapes.length; i++) {
                if (shapes[i] == group) {
                    return true;
                }
            }
            return false;
        }
    }

    /** What deeds change: dents, who lies where, the wind, the nights. */
    private static final class Field {
        private final int[] dents = new int[MOST_CELLS];
        private final int[] at = new int[MOST_PEOPLE];
        private int wind;
        private int nights;

        private Field() {
            Arrays.fill(at, NONE);
        }

        private void begin(int toldWind) {
            Arrays.fill(dents, 0);
            Arrays.fill(at, NONE);
            wind = toldWind;
            nights = 0;
        }

        private void become(Field other) {
            System.arraycopy(other.dents, 0, dents, 0, MOST_CELLS);
            System.arraycopy(other.at, 0, at, 0, MOST_PEOPLE);
            wind = other.wind;
            nights = other.nights;
        }

        private long dented() {
            return dentedFrom(1);
        }

        private long seen() {
            return dentedFrom(SEEN_FROM);
        }

        private long dentedFrom(int least) {
            long cells = 0;
            for (int c = 0; c < MOST_CELLS; c++) {
                if (dents[c] >= least) {
                    cells |= 1L << c;
                }
            }
            return cells;
        }

        private void press(long cells) {
            for (int c = 0; c < MOST_CELLS; c++) {
                if (has(cells, c)) {
                    dents[c] = DEEPEST;
                }
            }
        }

        private void passNight(Land land) {
            long shelter = land.rocks | dented();
            long sheltered = wind == 0 ? land.all : land.moved(shelter, wind);
            for (int c = 0; c < MOST_CELLS; c++) {
                int blurred = has(sheltered, c) ? 1 : 2;
                dents[c] = Math.max(0, dents[c] - blurred);
            }
            nights++;
        }

        private void melt() {
            for (int c = 0; c < MOST_CELLS; c++) {
                dents[c] = Math.max(0, dents[c] - 3);
            }
        }

        private void snowOver() {
            for (int c = 0; c < MOST_CELLS; c++) {
                dents[c] = dents[c] <= 4 ? 0 : dents[c] - 1;
            }
        }

        private void cross(int c) {
            if (c >= 0 && c < MOST_CELLS) {
                dents[c] = Math.min(DEEPEST, dents[c] + 2);
            }
        }

        private void roll(long cells) {
            for (int c = 0; c < MOST_CELLS; c++) {
                if (has(cells, c)) {
                    dents[c] = Math.max(5, dents[c]);
                }
            }
        }
    }

    /** Places where fields are put by and taken from again, all in one row of numbers. */
    private static final class Shelf {
        private static final int ROOM = MOST_CELLS + MOST_PEOPLE + 2;

        private final int places;
        private final int[] rows;

        private Shelf(int places) {
            this.places = Math.max(0, places);
            rows = new int[this.places * ROOM];
        }

        private void put(int place, Field field) {
            if (place < 0 || place >= places) {
                return;
            }
            int from = place * ROOM;
            System.arraycopy(field.dents, 0, rows, from, MOST_CELLS);
            System.arraycopy(field.at, 0, rows, from + MOST_CELLS, MOST_PEOPLE);
            rows[from + ROOM - 2] = field.wind;
            rows[from + ROOM - 1] = field.nights;
        }

        private void take(int place, Field field) {
            if (place < 0 || place >= places) {
                return;
            }
            int from = place * ROOM;
            System.arraycopy(rows, from, field.dents, 0, MOST_CELLS);
            System.arraycopy(rows, from + MOST_CELLS, field.at, 0, MOST_PEOPLE);
            field.wind = rows[from + ROOM - 2];
            field.nights = rows[from + ROOM - 1];
        }
    }

    /** What was found, and the book. */
    private static final class Notebook {
        private final int[] foundCells = new int[MOST_FOUND];
        private final boolean[] foundDented = new boolean[MOST_FOUND];
        private final int[] entries = new int[MOST_ENTRIES];
        private int found;
        private int written;

        private void empty() {
            found = 0;
            written = 0;
        }

        private int addFound(int c, boolean dented) {
            if (found >= MOST_FOUND) {
                return FULL;
            }
            foundCells[found] = c;
            foundDented[found] = dented;
            found++;
            return found;
        }

        private boolean agreesWith(long shape) {
            for (int i = 0; i < found; i++) {
                if (has(shape, foundCells[i]) != foundDented[i]) {
                    return false;
                }
            }
            return true;
        }

        private int addEntry(int count) {
            if (written >= MOST_ENTRIES) {
                return FULL;
            }
            entries[written] = count;
            written++;
            return written;
        }

        private int firstOtherThan(int count) {
            for (int i = 0; i < written; i++) {
                if (entries[i] != count) {
                    return i;
                }
            }
            return NONE;
        }
    }

    /** The text, and how it is read; of its faults the first stays, as it is read from left to right. */
    private static final class Reader {
        private final int[] letters = new int[MOST_LETTERS];
        private int length;
        private int faultNumber;
        private int faultPlace = NONE;
        private int place;
        private int numberPlace;
        private boolean windIsTold;

        private int add(int letter) {
            if (length >= MOST_LETTERS) {
                return FULL;
            }
            letters[length] = letter;
            length++;
            return length;
        }

        /** The text is empty then, with a fault, too. */
        private void readInto(Land land) {
            faultNumber = 0;
            faultPlace = NONE;
            place = 0;
            windIsTold = false;
            land.clear();
            skipBlanks();
            for (int i = 0; i < MOST_LETTERS && place < length && faultNumber == 0; i++) {
                readClause(land);
                skipBlanks();
            }
            land.drawShapes();
            length = 0;
        }

        private void complain(int number, int where) {
            if (faultNumber == 0) {
                faultNumber = number;
                faultPlace = where;
            }
        }

        private void skipBlanks() {
            while (place < length && letters[place] == ' ') {
                place++;
            }
        }

        private boolean atFigure() {
            return place < length && letters[place] >= '0' && letters[place] <= '9';
        }

        private void readClause(Land land) {
            int word = letters[place];
            if (word != 'n' && land.across == 0) {
                complain(1, place);
                return;
            }
            place++;
            switch (word) {
                case 'n':
                    readSides(land);
                    break;
                case 'p':
                    readPerson(land);
                    break;
                case 'w':
                    readWind(land);
                    break;
                case 'r':
                    readRock(land);
                    break;
                default:
                    complain(1, place - 1);
                    break;
            }
            readEnd();
        }

        private void readEnd() {
            skipBlanks();
            if (place >= length || letters[place] != ';') {
                complain(1, place);
                return;
            }
            place++;
        }

        /** The number; NONE with a fault. */
        private int readNumber(int least, int most) {
            skipBlanks();
            numberPlace = place;
            int value = 0;
            while (place < length && atFigure()) {
                if (place - numberPlace < MOST_FIGURES) {
                    value = 10 * value + letters[place] - '0';
                }
                place++;
            }
            if (place == numberPlace) {
                complain(1, place);
            } else if (place - numberPlace > MOST_FIGURES || value < least || value > most) {
                complain(2, numberPlace);
            }
            return faultNumber == 0 ? value : NONE;
        }

        private void readSides(Land land) {
            if (land.across != 0) {
                complain(3, place - 1);
            }
            int w = readNumber(LEAST_SIDE, MOST_SIDE);
            int h = readNumber(LEAST_SIDE, MOST_SIDE);
            if (faultNumber == 0) {
                land.measure(w, h);
            }
        }

        private void readPerson(Land land) {
            if (land.people >= MOST_PEOPLE) {
                complain(3, place - 1);
            }
            int kind = readNumber(0, KINDS - 1);
            if (faultNumber == 0) {
                land.kinds[land.people] = kind;
                land.people++;
            }
        }

        private void readWind(Land land) {
            if (windIsTold) {
                complain(3, place - 1);
            }
            int wind = readNumber(0, WINDS - 1);
            if (faultNumber == 0) {
                land.toldWind = wind;
                windIsTold = true;
            }
        }

        private void readRock(Land land) {
            if (Long.bitCount(land.rocks) >= MOST_ROCKS) {
                complain(3, place - 1);
            }
            int x = readNumber(0, land.across - 1);
            int y = readNumber(0, land.down - 1);
            if (faultNumber == 0) {
                addRock(land, 1L << (land.across * y + x));
            }
        }

        private void addRock(Land land, long rock) {
            if ((land.rocks & rock) != 0) {
                complain(4, numberPlace);
            }
            land.rocks |= rock;
        }
    }
}
