import java.util.ArrayDeque;
import java.util.ArrayList;
import java.util.List;
import java.util.TreeSet;

/**
 * The document once more, written in another way (rows and columns, lists, everything by trying), so
 * that runs of calls on both can be compared. It is as slow as it likes.
 */
final class SlowCensus {
    static final int NONE = -1, UNKNOWN = -1000000001, OUTSIDE = -1000000002, NOT = -1000000003, FULL = -1000000004;

    /** All of section 2. */
    private static final class State {
        int[][] dent = new int[0][0];
        int[] at = new int[0];
        int wind;
        int nights;

        State copy() {
            State s = new State();
            s.dent = new int[dent.length][];
            for (int y = 0; y < dent.length; y++) s.dent[y] = dent[y].clone();
            s.at = at.clone();
            s.wind = wind;
            s.nights = nights;
            return s;
        }
    }

    private static final class Fault extends RuntimeException {
        final int number, place;
        Fault(int number, int place) { this.number = number; this.place = place; }
    }

    private StringBuilder text = new StringBuilder();
    private int faultAt = NONE;
    private int w, h;
    private List<Integer> kinds = new ArrayList<>();
    private TreeSet<Integer> rocks = new TreeSet<>();
    private State s = new State();
    private final List<State> past = new ArrayList<>();
    private final State[] images = new State[2];
    private final long[] imageSeed = new long[2];
    private final List<int[]> found = new ArrayList<>();
    private final List<Integer> book = new ArrayList<>();
    private long seed;

    // ---- the text: tokens first, then clauses

    private static final class Token {
        String word; int place;
        Token(String word, int place) { this.word = word; this.place = place; }
        boolean isNumber() { return Character.isDigit(word.charAt(0)); }
    }

    private static List<Token> tokens(String t) {
        List<Token> all = new ArrayList<>();
        for (int i = 0; i < t.length(); ) {
            char ch = t.charAt(i);
            if (ch == ' ') { i++; continue; }
            int j = i + 1;
            if (ch >= '0' && ch <= '9') while (j < t.length() && t.charAt(j) >= '0' && t.charAt(j) <= '9') j++;
            all.add(new Token(t.substring(i, j), i));
            i = j;
        }
        return all;
    }

    private static int number(List<Token> ts, int i, int least, int most, int end) {
        if (i >= ts.size()) throw new Fault(1, end);
        Token t = ts.get(i);
        if (!t.isNumber()) throw new Fault(1, t.place);
        if (t.word.length() > 3) throw new Fault(2, t.place);
        int v = Integer.parseInt(t.word);
        if (v < least || v > most) throw new Fault(2, t.place);
        return v;
    }

    private static void semicolon(List<Token> ts, int i, int end) {
        if (i >= ts.size()) throw new Fault(1, end);
        if (!ts.get(i).word.equals(";")) throw new Fault(1, ts.get(i).place);
    }

    int north() {
        String t = text.toString();
        text = new StringBuilder();
        int nw = 0, nh = 0, wind = NONE;
        List<Integer> nk = new ArrayList<>();
        TreeSet<Integer> nr = new TreeSet<>();
        try {
            List<Token> ts = tokens(t);
            int end = t.length();
            int i = 0;
            while (i < ts.size()) {
                Token first = ts.get(i);
                if (nw == 0 && !first.word.equals("n")) throw new Fault(1, first.place);
                switch (first.word) {
                    case "n" -> {
                        if (nw != 0) throw new Fault(3, first.place);
                        nw = number(ts, i + 1, 2, 7, end);
                        nh = number(ts, i + 2, 2, 7, end);
                        i += 3;
                    }
                    case "p" -> {
                        if (nk.size() == 7) throw new Fault(3, first.place);
                        nk.add(number(ts, i + 1, 0, 4, end));
                        i += 2;
                    }
                    case "w" -> {
                        if (wind != NONE) throw new Fault(3, first.place);
                        wind = number(ts, i + 1, 0, 4, end);
                        i += 2;
                    }
                    case "r" -> {
                        if (nr.size() == 8) throw new Fault(3, first.place);
                        int x = number(ts, i + 1, 0, nw - 1, end);
                        int y = number(ts, i + 2, 0, nh - 1, end);
                        if (!nr.add(x + nw * y)) throw new Fault(4, ts.get(i + 2).place);
                        i += 3;
                    }
                    default -> throw new Fault(1, first.place);
                }
                semicolon(ts, i, end);
                i++;
            }
        } catch (Fault f) {
            faultAt = f.place;
            return -10 - f.number;
        }
        faultAt = NONE;
        w = nw;
        h = nh;
        kinds = nk;
        rocks = nr;
        s = new State();
        s.dent = new int[h][w];
        s.at = new int[kinds.size()];
        java.util.Arrays.fill(s.at, NONE);
        s.wind = Math.max(0, wind);
        past.clear();
        images[0] = images[1] = null;
        found.clear();
        book.clear();
        return kinds.size();
    }

    int feed(int letter) {
        if (letter < 0 || letter > 255) return OUTSIDE;
        if (text.length() == 240) return FULL;
        text.append((char) letter);
        return text.length();
    }

    int fault() { return faultAt; }

    // ---- shapes, groups

    private boolean there(int x, int y) { return x >= 0 && y >= 0 && x < w && y < h; }

    /** The cells of a shape; null if one is not there. */
    private TreeSet<Integer> shape(int kind, int c) {
        int x = c % w, y = c / w;
        int[][] steps = switch (kind) {
            case 0 -> new int[][] {{0, 0}, {-1, 0}, {1, 0}};
            case 1 -> new int[][] {{0, 0}, {-1, 0}, {1, 0}, {0, -1}};
            case 2 -> new int[][] {{0, 0}, {0, 1}};
            case 3 -> new int[][] {{0, 0}};
            default -> new int[][] {{0, 0}, {1, 0}};
        };
        TreeSet<Integer> cells = new TreeSet<>();
        for (int[] d : steps) {
            if (!there(x + d[0], y + d[1])) return null;
            cells.add(x + d[0] + w * (y + d[1]));
        }
        return cells;
    }

    private boolean canLieAt(State st, int kind, int c) {
        TreeSet<Integer> cells = shape(kind, c);
        if (cells == null) return false;
        for (int k : cells) if (rocks.contains(k) || st.dent[k / w][k % w] > 0) return false;
        return true;
    }

    private boolean seen(State st, int x, int y) { return there(x, y) && st.dent[y][x] >= 3; }

    private List<TreeSet<Integer>> groups(State st) {
        List<TreeSet<Integer>> all = new ArrayList<>();
        boolean[][] done = new boolean[h][w];
        for (int y = 0; y < h; y++) for (int x = 0; x < w; x++) {
            if (done[y][x] || !seen(st, x, y)) continue;
            TreeSet<Integer> g = new TreeSet<>();
            ArrayDeque<int[]> queue = new ArrayDeque<>();
            queue.add(new int[] {x, y});
            done[y][x] = true;
            while (!queue.isEmpty()) {
                int[] q = queue.poll();
                g.add(q[0] + w * q[1]);
                for (int[] d : new int[][] {{1, 0}, {-1, 0}, {0, 1}, {0, -1}}) {
                    int nx = q[0] + d[0], ny = q[1] + d[1];
                    if (seen(st, nx, ny) && !done[ny][nx]) { done[ny][nx] = true; queue.add(new int[] {nx, ny}); }
                }
            }
            all.add(g);
        }
        return all;
    }

    private int count(State st) {
        int sum = 0;
        for (TreeSet<Integer> g : groups(st)) {
            switch (g.size()) {
                case 1, 3, 4 -> sum += 1;
                case 2 -> sum += 2;
                default -> sum += g.size() / 3 + 1;
            }
        }
        return sum;
    }

    private int truth() {
        int sum = 0;
        for (int p = 0; p < kinds.size(); p++) if (s.at[p] != NONE) sum += kinds.get(p) == 2 ? 2 : 1;
        return sum;
    }

    private boolean isDented(State st) {
        for (int[] row : st.dent) for (int d : row) if (d > 0) return true;
        return false;
    }

    private int distance(int a, int b) {
        int[][] far = new int[h][w];
        for (int[] row : far) java.util.Arrays.fill(row, -1);
        ArrayDeque<Integer> queue = new ArrayDeque<>();
        queue.add(a);
        far[a / w][a % w] = 0;
        while (!queue.isEmpty()) {
            int c = queue.poll();
            for (int[] d : new int[][] {{1, 0}, {-1, 0}, {0, 1}, {0, -1}}) {
                int nx = c % w + d[0], ny = c / w + d[1];
                if (there(nx, ny) && far[ny][nx] < 0) { far[ny][nx] = far[c / w][c % w] + 1; queue.add(nx + w * ny); }
            }
        }
        return far[b / w][b % w];
    }

    int told(int what) {
        List<TreeSet<Integer>> gs = groups(s);
        switch (what) {
            case 0: return w;
            case 1: return h;
            case 2: return kinds.size();
            case 3: return rocks.size();
            case 4: return text.length();
            case 5: return s.nights;
            case 6: return s.wind;
            case 7: { int set = 0; for (int p = 0; p < s.at.length; p++) if (s.at[p] != NONE) set += 1 << p; return set; }
            case 8: return count(s);
            case 9: return truth();
            case 10: return gs.size();
            case 11: { TreeSet<Integer> best = null; for (TreeSet<Integer> g : gs) if (best == null || g.size() > best.size()) best = g; return best == null ? NONE : best.first(); }
            case 12: {
                int forged = 0;
                for (TreeSet<Integer> g : gs) {
                    boolean is = false;
                    for (int k = 0; k < 5; k++) for (int c = 0; c < w * h; c++) if (g.equals(shape(k, c))) is = true;
                    if (!is) forged++;
                }
                return forged;
            }
            case 13: {
                int best = NONE, most = NONE;
                for (int p = 0; p < s.at.length; p++) {
                    int near = Integer.MAX_VALUE;
                    for (int q = 0; q < s.at.length; q++) if (p != q && s.at[p] != NONE && s.at[q] != NONE) near = Math.min(near, distance(s.at[p], s.at[q]));
                    if (near != Integer.MAX_VALUE && near > most) { most = near; best = p; }
                }
                return best;
            }
            case 14: { State st = s.copy(); int n = 0; while (isDented(st)) { night(st); n++; } return n; }
            case 15: return found.size();
            case 16: return book.size();
            case 17: return past.size();
            default: return OUTSIDE;
        }
    }

    private boolean isCell(int c) { return c >= 0 && c < w * h; }
    private boolean isPerson(int p) { return p >= 0 && p < kinds.size(); }

    int cell(int c, int what) {
        if (!isCell(c)) return UNKNOWN;
        switch (what) {
            case 0: return s.dent[c / w][c % w];
            case 1: return rocks.contains(c) ? 1 : 0;
            case 2: for (TreeSet<Integer> g : groups(s)) if (g.contains(c)) return g.size(); return 0;
            case 3: for (int p = 0; p < s.at.length; p++) if (s.at[p] == c) return p; return NONE;
            default: return OUTSIDE;
        }
    }

    int person(int p, int what) {
        if (!isPerson(p)) return UNKNOWN;
        switch (what) {
            case 0: return kinds.get(p);
            case 1: return s.at[p];
            case 2: {
                int n = 0;
                if (s.at[p] != NONE) for (int c : shape(kinds.get(p), s.at[p])) if (seen(s, c % w, c / w)) n++;
                return n;
            }
            default: return OUTSIDE;
        }
    }

    // ---- deeds

    private void remember() {
        past.add(s.copy());
        if (past.size() > 30) past.remove(0);
    }

    private void lies(State st, int p, int c) {
        st.at[p] = c;
        for (int k : shape(kinds.get(p), c)) st.dent[k / w][k % w] = 9;
    }

    private void night(State st) {
        int[][] old = st.copy().dent;
        int[][] from = {{0, 0}, {-1, 0}, {0, -1}, {1, 0}, {0, 1}};
        for (int y = 0; y < h; y++) for (int x = 0; x < w; x++) {
            if (old[y][x] == 0) continue;
            int less = 1;
            if (st.wind != 0) {
                int fx = x + from[st.wind][0], fy = y + from[st.wind][1];
                if (!there(fx, fy) || (!rocks.contains(fx + w * fy) && old[fy][fx] == 0)) less = 2;
            }
            st.dent[y][x] = Math.max(0, old[y][x] - less);
        }
        st.nights++;
    }

    private void snow(State st) {
        for (int[] row : st.dent) for (int x = 0; x < row.length; x++) row[x] = row[x] > 4 ? row[x] - 1 : 0;
    }

    private void hare(State st, int c) { st.dent[c / w][c % w] = Math.min(9, st.dent[c / w][c % w] + 2); }

    int lie(int p, int c) {
        if (!isPerson(p) || !isCell(c)) return UNKNOWN;
        if (!canLieAt(s, kinds.get(p), c)) return NOT;
        remember();
        lies(s, p, c);
        return shape(kinds.get(p), c).size();
    }

    int rise(int p) {
        if (!isPerson(p)) return UNKNOWN;
        if (s.at[p] == NONE) return NOT;
        remember();
        int c = s.at[p];
        s.at[p] = NONE;
        return c;
    }

    int night(int n) {
        if (n < 1 || n > 20) return OUTSIDE;
        if (w == 0) return NOT;
        if (s.nights > 9000) return FULL;
        for (int i = 0; i < n; i++) { remember(); night(s); }
        return count(s);
    }

    int thaw() {
        if (w == 0) return NOT;
        remember();
        for (int[] row : s.dent) for (int x = 0; x < w; x++) row[x] = row[x] < 3 ? 0 : row[x] - 3;
        return count(s);
    }

    int snow() {
        if (w == 0) return NOT;
        remember();
        snow(s);
        return count(s);
    }

    int hare(int c) {
        if (!isCell(c)) return UNKNOWN;
        if (rocks.contains(c)) return NOT;
        remember();
        hare(s, c);
        return s.dent[c / w][c % w];
    }

    int pin(int y) {
        if (y < 0 || y >= h) return OUTSIDE;
        remember();
        for (int x = 0; x < w; x++) if (!rocks.contains(x + w * y) && s.dent[y][x] < 5) s.dent[y][x] = 5;
        return count(s);
    }

    int wind(int d) {
        if (d < 0 || d > 4) return OUTSIDE;
        if (w == 0) return NOT;
        remember();
        int was = s.wind;
        s.wind = d;
        return was;
    }

    private int draw(int n) {
        seed = (seed * 1103515245L + 12345L) % (1L << 31);
        return (int) (seed / 65536 % n);
    }

    int drift(int n) {
        if (n < 1 || n > 20) return OUTSIDE;
        if (w == 0) return NOT;
        if (s.nights > 9000) return FULL;
        for (int i = 0; i < n; i++) {
            remember();
            int what = draw(8);
            if (what == 0 && !kinds.isEmpty()) {
                int p = draw(kinds.size()), c = draw(w * h);
                if (canLieAt(s, kinds.get(p), c)) lies(s, p, c);
            }
            if (what == 1) { int c = draw(w * h); if (!rocks.contains(c)) hare(s, c); }
            if (what == 2) snow(s);
            if (what == 3) s.wind = draw(5);
            night(s);
        }
        return count(s);
    }

    int undo(int n) {
        if (n < 1 || n > 30) return OUTSIDE;
        if (n > past.size()) return NOT;
        for (int i = 0; i < n; i++) s = past.remove(past.size() - 1);
        return s.nights;
    }

    // ---- tried

    private State later(int n) {
        State st = s.copy();
        for (int i = 0; i < n; i++) night(st);
        return st;
    }

    int left(int c, int n) {
        if (!isCell(c)) return UNKNOWN;
        if (n < 0 || n > 20) return OUTSIDE;
        return later(n).dent[c / w][c % w];
    }

    int willCount(int n) { return n < 0 || n > 20 ? OUTSIDE : count(later(n)); }

    int wrongFirst() {
        for (int n = 0; n <= 20; n++) if (count(later(n)) != truth()) return n;
        return NONE;
    }

    int canLie(int p, int what) {
        if (!isPerson(p)) return UNKNOWN;
        if (what < 0 || what > 3) return OUTSIDE;
        List<Integer> cells = new ArrayList<>();
        List<Integer> counts = new ArrayList<>();
        for (int c = 0; c < w * h; c++) if (canLieAt(s, kinds.get(p), c)) {
            State st = s.copy();
            lies(st, p, c);
            cells.add(c);
            counts.add(count(st));
        }
        if (what == 0) return cells.size();
        if (cells.isEmpty()) return NONE;
        if (what == 1) return cells.get(0);
        int best = what == 2 ? java.util.Collections.max(counts) : java.util.Collections.min(counts);
        return cells.get(counts.indexOf(best));
    }

    int round(int c, int set, int what) {
        if (!isCell(c)) return UNKNOWN;
        for (int k = 0; k < 32; k++) if ((set & 1 << k) != 0 && !isPerson(k)) return UNKNOWN;
        if (what < 0 || what > 1) return OUTSIDE;
        int many = Integer.bitCount(set);
        if (many == 0 || many > 5) return NOT;
        for (int k = 0; k < 7; k++) if ((set & 1 << k) != 0 && s.at[k] == NONE) return NOT;
        int bestSteps = Integer.MAX_VALUE, bestOrder = 0;
        int top = (int) Math.pow(10, many);
        for (int order = top / 10; order < top; order++) {
            int visited = 0, steps = 0, here = c;
            boolean good = true;
            for (char figure : String.valueOf(order).toCharArray()) {
                int p = figure - '1';
                if (p < 0 || p > 6 || (set & 1 << p) == 0 || (visited & 1 << p) != 0) { good = false; break; }
                visited |= 1 << p;
                steps += distance(here, s.at[p]);
                here = s.at[p];
            }
            if (good && steps < bestSteps) { bestSteps = steps; bestOrder = order; }
        }
        return what == 0 ? bestSteps : bestOrder;
    }

    int touch(int i) {
        List<Integer> pairs = new ArrayList<>();
        for (int a = 0; a < kinds.size(); a++) for (int b = a + 1; b < kinds.size(); b++) {
            if (s.at[a] == NONE || s.at[b] == NONE) continue;
            boolean near = false;
            for (int c : shape(kinds.get(a), s.at[a])) for (int d : shape(kinds.get(b), s.at[b])) near |= distance(c, d) <= 1;
            if (near) pairs.add(10 * a + b);
        }
        if (i == NONE) return pairs.size();
        return i >= 0 && i < pairs.size() ? pairs.get(i) : NONE;
    }

    int still(int n, int q) {
        if (n < 0 || n > 60 || q < 0 || q > 100) return OUTSIDE;
        java.math.BigInteger v = java.math.BigInteger.valueOf(1000000000L);
        for (int i = 0; i < n; i++) v = v.multiply(java.math.BigInteger.valueOf(q)).divide(java.math.BigInteger.valueOf(100));
        return v.intValueExact();
    }

    // ---- what was found

    int find(int c, boolean dented) {
        if (!isCell(c)) return UNKNOWN;
        if (found.size() == 6) return FULL;
        found.add(new int[] {c, dented ? 1 : 0});
        return found.size();
    }

    private List<Integer> pairsThatFit() {
        List<Integer> pairs = new ArrayList<>();
        State bare = new State();
        bare.dent = new int[h][w];
        for (int k = 0; k < 5; k++) for (int c = 0; c < w * h; c++) {
            if (!canLieAt(bare, k, c)) continue;
            boolean good = true;
            for (int[] f : found) good &= shape(k, c).contains(f[0]) == (f[1] == 1);
            if (good) pairs.add(100 * k + c);
        }
        return pairs;
    }

    int fits(int what) {
        if (what < 0 || what > 2) return OUTSIDE;
        List<Integer> pairs = pairsThatFit();
        if (what == 0) return pairs.size();
        if (what == 1) return pairs.isEmpty() ? NONE : pairs.get(0);
        int set = 0;
        for (int pair : pairs) set |= 1 << pair / 100;
        return set;
    }

    int look() {
        List<Integer> pairs = pairsThatFit();
        int best = NONE, bestPart = Integer.MAX_VALUE;
        for (int c = 0; c < w * h; c++) {
            int with = 0;
            for (int pair : pairs) if (shape(pair / 100, pair % 100).contains(c)) with++;
            int without = pairs.size() - with;
            if (with > 0 && without > 0 && Math.max(with, without) < bestPart) { best = c; bestPart = Math.max(with, without); }
        }
        return best;
    }

    int write(int count) {
        if (count < 0 || count > 99) return OUTSIDE;
        if (book.size() == 20) return FULL;
        book.add(count);
        return book.size();
    }

    int judge() {
        for (int i = 0; i < book.size(); i++) if (book.get(i) != count(s)) return i;
        return NONE;
    }

    int tear() {
        int both = found.size() + book.size();
        found.clear();
        book.clear();
        return both;
    }

    // ---- images

    int seed(int v) {
        if (v < 0) return OUTSIDE;
        int was = (int) seed;
        seed = v;
        return was;
    }

    int keep(int i) {
        if (i < 0 || i > 1) return UNKNOWN;
        images[i] = s.copy();
        imageSeed[i] = seed;
        past.clear();
        return 1;
    }

    int goBack(int i) {
        if (i < 0 || i > 1) return UNKNOWN;
        if (images[i] == null) return NOT;
        s = images[i].copy();
        seed = imageSeed[i];
        past.clear();
        return 1;
    }
}
