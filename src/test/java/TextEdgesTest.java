/** The edges of the text and of its faults: the document's section 1, promises 1 to 4, sentence by sentence. */
public final class TextEdgesTest {
    public static void main(String[] args) {
        letters();
        lettersAtMost();
        wholeText();
        textIsEmptyThen();
        sides();
        cellsByNumber();
        firstOnce();
        people();
        kinds();
        winds();
        rocks();
        rocksThatThereAre();
        figures();
        wordIsOneLetter();
        blanks();
        blanksAre32();
        numbersSideBySide();
        noWord();
        end();
        firstLetterThatHasOne();
        ofTheseTheLeast();
        rockToldAlready();
        emptyText();
        sameNorthAgain();
        allIsAsItWas();
        latestFault();
        Due.end();
    }

    private static void good(String text, int people) {
        fault(text, people, Due.NONE);
    }

    private static void fault(String text, int answer, int place) {
        WingCensus x = new WingCensus();
        Due.feed(x, text);
        Due.due("north() of [" + text + "]", x.north(), answer);
        Due.due("fault() of [" + text + "]", x.fault(), place);
        Due.due("told(4) behind [" + text + "]", x.told(4), 0);
    }

    private static String filled(String text, int length) {
        StringBuilder t = new StringBuilder(text);
        while (t.length() < length) t.append(' ');
        return t.toString();
    }

    // ---- promise 2

    private static void letters() {
        Due.says("A letter (0 .. 255)");
        WingCensus x = new WingCensus();
        Due.due("feed(0)", x.feed(0), 1);
        Due.due("feed(1)", x.feed(1), 2);
        Due.due("feed(254)", x.feed(254), 3);
        Due.due("feed(255)", x.feed(255), 4);
        for (int letter : new int[] {-1, 256, 257, 256 + 'n', Integer.MIN_VALUE, Integer.MAX_VALUE}) {
            Due.due("feed(" + letter + ")", x.feed(letter), Due.OUTSIDE);
            Due.due("told(4) behind feed(" + letter + ")", x.told(4), 4);
        }
        Due.due("feed(110) then", x.feed('n'), 5);
    }

    private static void lettersAtMost() {
        Due.says("OUTSIDE, FULL (240)");
        WingCensus x = new WingCensus();
        Due.feed(x, filled("n2 2;", 239));
        Due.due("told(4), 239", x.told(4), 239);
        Due.due("feed, the last", x.feed('p'), 240);
        Due.due("feed, one more", x.feed('0'), Due.FULL);
        Due.due("feed, one more, not a letter", x.feed(-1), Due.OUTSIDE);
        Due.due("feed, one more, not a letter", x.feed(256), Due.OUTSIDE);
        Due.due("told(4), full", x.told(4), 240);
        Due.due("north(): what was refused is not there", x.north(), -11);
        Due.due("fault(): the end", x.fault(), 240);
    }

    private static void wholeText() {
        Due.says("a text (240 letters at most)");
        good(filled("n2 2;", 237) + "p0;", 1);
        fault(filled("n2 2;", 238) + "p0", -11, 240);
        fault(filled("n2 2;", 239) + "x", -11, 239);
        fault(filled("n2 2;", 239) + "n", -13, 239);
        fault(filled("n2 2;p0;p0;p0;p0;p0;p0;p0;", 239) + "p", -13, 239);
        fault(filled("n2 2;p", 239) + "5", -12, 239);
        fault(filled("n2 2;r0 0;r0 ", 239) + "0", -14, 239);
        fault(filled("", 239) + "n", -11, 240);
        good(filled("", 235) + "n2 2;", 0);
    }

    private static void textIsEmptyThen() {
        Due.says("THE TEXT (it is empty then, with a FAULT, too)");
        WingCensus x = new WingCensus();
        Due.feed(x, filled("n2 2;p3;", 240));
        Due.due("feed, full", x.feed(' '), Due.FULL);
        Due.due("north()", x.north(), 1);
        Due.due("told(4)", x.told(4), 0);
        Due.due("feed, the first again", x.feed('x'), 1);
        Due.due("north() with a fault", x.north(), -11);
        Due.due("told(4) behind a fault", x.told(4), 0);
        Due.due("feed, the first once more", x.feed('n'), 1);
        Due.feed(x, "3 2;");
        Due.due("north(): nothing of the earlier texts", x.north(), 0);
        Due.due("told(0)", x.told(0), 3);
    }

    // ---- the clauses

    private static void sides() {
        Due.says("W CELLS across, H down, 2 .. 7 each");
        fault("n0 2;", -12, 1);
        fault("n1 2;", -12, 1);
        good("n2 2;", 0);
        good("n3 2;", 0);
        good("n6 2;", 0);
        good("n7 2;", 0);
        fault("n8 2;", -12, 1);
        fault("n2 0;", -12, 3);
        fault("n2 1;", -12, 3);
        good("n2 3;", 0);
        good("n2 6;", 0);
        good("n2 7;", 0);
        fault("n2 8;", -12, 3);
        good("n7 7;", 0);
        fault("n8 8;", -12, 1);
        fault("n1 1;", -12, 1);
        for (int w = 2; w <= 7; w += 5) {
            for (int h = 2; h <= 7; h += 5) {
                WingCensus x = Due.told("n" + w + " " + h + ";");
                Due.due("told(0)", x.told(0), w);
                Due.due("told(1)", x.told(1), h);
                Due.due("the first cell", x.cell(0, 0), 0);
                Due.due("the last cell", x.cell(w * h - 1, 0), 0);
                Due.due("a cell beyond", x.cell(w * h, 0), Due.UNKNOWN);
            }
        }
    }

    private static void cellsByNumber() {
        Due.says("CELL X, Y has the number X and W times Y");
        WingCensus x = Due.told("n3 5;r0 0;r2 0;r1 1;r0 4;r2 4;");
        int[] want = {1, 0, 1, 0, 1, 0, 0, 0, 0, 0, 0, 0, 1, 0, 1};
        for (int c = 0; c < want.length; c++) Due.due("cell(" + c + ", 1)", x.cell(c, 1), want[c]);
        WingCensus y = Due.told("n7 7;r6 0;r0 6;r6 6;");
        Due.due("cell(6, 1)", y.cell(6, 1), 1);
        Due.due("cell(42, 1)", y.cell(42, 1), 1);
        Due.due("cell(48, 1)", y.cell(48, 1), 1);
        Due.due("told(3)", y.told(3), 3);
    }

    private static void firstOnce() {
        Due.says("first, once; another word first than 'n'; 'n' again (at it)");
        fault("p0;n2 2;", -11, 0);
        fault("w0;n2 2;", -11, 0);
        fault("r0 0;n2 2;", -11, 0);
        fault("  p0;n2 2;", -11, 2);
        fault("n2 2;n2 2;", -13, 5);
        fault("n2 2;n", -13, 5);
        fault("n2 2;p0;w1;r0 0;  n3 3;", -13, 18);
        fault("n2 2;n9 9;", -13, 5);
    }

    private static void people() {
        Due.says("7 PEOPLE at most; an eighth 'p' (at it)");
        good("n2 2;", 0);
        good("n2 2;p0;", 1);
        good("n2 2;p0;p0;p0;p0;p0;p0;", 6);
        good("n2 2;p0;p0;p0;p0;p0;p0;p0;", 7);
        fault("n2 2;p0;p0;p0;p0;p0;p0;p0;p0;", -13, 26);
        fault("n2 2;p0;p0;p0;p0;p0;p0;p0; p", -13, 27);
        WingCensus x = Due.told("n2 2;p0;p1;p2;p3;p4;p2;p3;");
        int[] kinds = {0, 1, 2, 3, 4, 2, 3};
        for (int p = 0; p < 7; p++) Due.due("person(" + p + ", 0)", x.person(p, 0), kinds[p]);
        Due.due("person(7, 0)", x.person(7, 0), Due.UNKNOWN);
        Due.due("told(2)", x.told(2), 7);
        WingCensus none = Due.told("n2 2;");
        Due.due("person(0, 0), no people", none.person(0, 0), Due.UNKNOWN);
    }

    private static void kinds() {
        Due.says("KIND K, 0 .. 4");
        for (int k = 0; k <= 4; k++) Due.due("the kind " + k, Due.told("n2 2;p" + k + ";").person(0, 0), k);
        fault("n2 2;p5;", -12, 6);
        fault("n2 2;p9;", -12, 6);
        fault("n2 2;p  10;", -12, 8);
        fault("n2 2;p-1;", -11, 6);
    }

    private static void winds() {
        Due.says("WIND: 0 none, 1 .. 4; 0 untold; once");
        Due.due("untold", Due.told("n2 2;").told(6), 0);
        for (int d = 0; d <= 4; d++) Due.due("the wind " + d, Due.told("n2 2;w" + d + ";").told(6), d);
        fault("n2 2;w5;", -12, 6);
        fault("n2 2;w0;w0;", -13, 8);
        fault("n2 2;w1;w", -13, 8);
        fault("n2 2;w4;p0; w5;", -13, 12);
    }

    private static void rocks() {
        Due.says("ROCKS, 8 at most; a ninth 'r' (at it)");
        String seven = "n3 3;r0 0;r1 0;r2 0;r0 1;r1 1;r2 1;r0 2;";
        Due.due("no rocks", Due.told("n3 3;").told(3), 0);
        Due.due("one", Due.told("n3 3;r2 2;").told(3), 1);
        Due.due("seven", Due.told(seven).told(3), 7);
        Due.due("eight", Due.told(seven + "r1 2;").told(3), 8);
        fault(seven + "r1 2;r2 2;", -13, 45);
        fault(seven + "r1 2;  r", -13, 47);
    }

    private static void rocksThatThereAre() {
        Due.says("an X, a Y that there is not (at its first)");
        good("n2 7;r1 6;", 0);
        fault("n2 7;r2 6;", -12, 6);
        fault("n2 7;r1 7;", -12, 8);
        fault("n2 7;r6 1;", -12, 6);
        good("n7 2;r6 1;", 0);
        fault("n7 2;r7 1;", -12, 6);
        fault("n7 2;r6 2;", -12, 8);
        fault("n7 2;r1 6;", -12, 8);
        good("n7 7;r6 6;", 0);
        fault("n7 7;r 007 0;", -12, 7);
        fault("n7 7;r0  010;", -12, 9);
        fault("n7 7;r7 7;", -12, 6);
    }

    // ---- numbers, words, blanks

    private static void figures() {
        Due.says("NUMBERS have one to three figures; a NUMBER of four figures or more (at its first)");
        good("n2 2;p1;", 1);
        good("n02 02;p01;", 1);
        good("n002 002;p001;w004;r001 000;", 1);
        fault("n0002 2;", -12, 1);
        fault("n2 0002;", -12, 3);
        fault("n2 2;p0001;", -12, 6);
        fault("n2 2;w0000;", -12, 6);
        fault("n2 2;r0000 0;", -12, 6);
        fault("n2 2;r0 0000;", -12, 8);
        fault("n00002 2;", -12, 1);
        fault("n2 2;p4294967296;", -12, 6);
        fault("n2 2;p18446744073709551616;", -12, 6);
        fault("n100 2;", -12, 1);
        fault("n999 2;", -12, 1);
        fault("n; 2;", -11, 1);
        fault("n2 2;p;", -11, 6);
        WingCensus x = Due.told("n007 002;p004;w003;r006 001;");
        Due.due("W of three figures", x.told(0), 7);
        Due.due("H of three figures", x.told(1), 2);
        Due.due("KIND of three figures", x.person(0, 0), 4);
        Due.due("WIND of three figures", x.told(6), 3);
        Due.due("the rock of three figures", x.cell(13, 1), 1);
    }

    private static void wordIsOneLetter() {
        Due.says("a word is one letter");
        fault("nn2 2;", -11, 1);
        fault("n2 2;pp0;", -11, 6);
        fault("n2 2;ww0;", -11, 6);
        fault("n2 2;rr0 0;", -11, 6);
        fault("n2 2;pe0;", -11, 6);
        fault("n2 2;P0;", -11, 5);
        fault("N2 2;", -11, 0);
    }

    private static void blanks() {
        Due.says("blanks (32) may stand anywhere but within NUMBERS");
        good("    n    2    3    ;    p    4    ;    w    2    ;    r    1    2    ;    ", 1);
        good("n2 3;p4;w2;r1 2;", 1);
        fault("n2 3;p0 4;", -11, 8);
        fault("n2 3;w0 2;", -11, 8);
        fault("n2 3;r0 1 2;", -11, 10);
        fault("n0 2 3;", -12, 1);
        fault("n2 0 3;", -12, 3);
        fault("n2 3 0;", -11, 5);
    }

    private static void blanksAre32() {
        Due.says("blanks (32)");
        for (int letter : new int[] {0, 9, 10, 13, 31, 33, 160, 255}) {
            char ch = (char) letter;
            fault("n2" + ch + "2;", -11, 2);
            fault("n2 2;" + ch, -11, 5);
            fault(ch + "n2 2;", -11, 0);
            fault("n2 2" + ch + ";", -11, 4);
        }
    }

    private static void numbersSideBySide() {
        Due.says("two NUMBERS side by side need one");
        fault("n22;", -12, 1);
        fault("n02;", -11, 3);
        fault("n2,2;", -11, 2);
        fault("n2;2;", -11, 2);
        fault("n3 3;r11;", -12, 6);
        fault("n3 3;r01;", -11, 8);
        fault("n3 3;r001001;", -12, 6);
        good("n2 2;p3;", 1);
    }

    private static void noWord() {
        Due.says("1 it cannot stand there (a letter that is no word)");
        for (int letter = 0; letter < 256; letter++) {
            char ch = (char) letter;
            if (ch == ' ') continue;
            int atFirst = ch == 'n' ? 2 : 0;
            fault(ch + " ", -11, atFirst);
            if (ch != 'n') fault("n2 2;" + ch, -11, "pwr".indexOf(ch) >= 0 ? 6 : 5);
            if (ch != ';') fault("n2 2 " + ch, -11, 5);
            if (ch < '0' || ch > '9') fault("n2 2;p" + ch, -11, 6);
            if (ch < '0' || ch > '9') fault("n2 2;r0 " + ch, -11, 8);
        }
        fault("n2 2;;", -11, 5);
        fault(";", -11, 0);
        fault("2", -11, 0);
    }

    // ---- where the fault is, and which

    private static void end() {
        Due.says("the end at the text's length");
        String text = "n2 3;p0;w1;r0 1;";
        for (int length = 1; length < text.length(); length++) {
            boolean whole = text.charAt(length - 1) == ';';
            fault(text.substring(0, length), whole ? (length > 5 ? 1 : 0) : -11, whole ? Due.NONE : length);
            if (!whole) fault(text.substring(0, length) + "   ", -11, length + 3);
        }
        fault(" n", -11, 2);
    }

    private static void firstLetterThatHasOne() {
        Due.says("FAULTS, at the first letter that has one");
        fault("n8 x", -12, 1);
        fault("n2 2;p7x", -12, 6);
        fault("n2 2;p0x5", -11, 7);
        fault("n2 2;w9;w0;", -12, 6);
        fault("n2 2;w0;w9;", -13, 8);
        fault("n2 2;r0 0;r0 0x", -14, 13);
        fault("n2 2;r0 0;r0 0;n", -14, 13);
        fault("n2 2;r0 0;r2 0;", -12, 11);
        fault("n2 2;r0 0;r0 2;", -12, 13);
        fault("n2 2;n;r0 0;r0 0;", -13, 5);
        fault("n2 2;p0;p0;p0;p0;p0;p0;p0;p5;", -13, 26);
        fault("n3 3;r0 0;r1 0;r2 0;r0 1;r1 1;r2 1;r0 2;r1 2;r0 0;", -13, 45);
        fault("n3 3;r0 0;r1 0;r2 0;r0 1;r1 1;r2 1;r0 2;r0 0;r1 2;", -14, 43);
    }

    private static void ofTheseTheLeast() {
        Due.says("of these the least: 1 ahead of 3, where a word that is told already cannot stand");
        fault("n2 n", -11, 3);
        fault("n2 2n", -11, 4);
        fault("n2 2;w0w1;", -11, 7);
        fault("n2 2;ww", -11, 6);
        fault("n2 2;p0;p0;p0;p0;p0;p0;p0p", -11, 25);
        fault("n3 3;r0 0;r1 0;r2 0;r0 1;r1 1;r2 1;r0 2;r1 2r", -11, 44);
        Due.says("of these the least: 2 for a NUMBER with too many figures that is out of its bounds, too");
        fault("n9999 2;", -12, 1);
    }

    private static void rockToldAlready() {
        Due.says("4 a ROCK that is told already (at the Y)");
        fault("n2 2;r0 0;r0 0;", -14, 13);
        fault("n2 2;r1 1;r0 1;r1 0;r  01   001;", -14, 28);
        fault("n7 7;r6 6;p0;r6 6", -14, 16);
        good("n3 3;r1 2;r2 1;", 0);
        good("n2 3;r0 1;r0 2;r1 0;", 0);
        good("n2 2;r0 0;r1 0;r0 1;r1 1;", 0);
        fault("n2 2;r0 0;r1 0;r0 1;r1 1;r1 1;", -14, 28);
    }

    private static void emptyText() {
        Due.says("An empty text: no NORTH");
        WingCensus x = Due.told("n3 3;p3;w2;r0 0;");
        x.lie(0, 4);
        x.night(1);
        x.write(1);
        x.find(1, true);
        Due.due("north()", x.north(), 0);
        Due.due("fault()", x.fault(), Due.NONE);
        for (int k = 0; k <= 17; k++) Due.due("told(" + k + ")", x.told(k), k == 11 || k == 13 ? Due.NONE : 0);
        Due.due("cell(0, 0)", x.cell(0, 0), Due.UNKNOWN);
        Due.due("person(0, 0)", x.person(0, 0), Due.UNKNOWN);
        Due.due("lie(0, 0)", x.lie(0, 0), Due.UNKNOWN);
        Due.due("night(1)", x.night(1), Due.NOT);
        Due.due("thaw()", x.thaw(), Due.NOT);
        Due.due("snow()", x.snow(), Due.NOT);
        Due.due("hare(0)", x.hare(0), Due.UNKNOWN);
        Due.due("pin(0)", x.pin(0), Due.OUTSIDE);
        Due.due("wind(0)", x.wind(0), Due.NOT);
        Due.due("drift(1)", x.drift(1), Due.NOT);
        Due.due("undo(1)", x.undo(1), Due.NOT);
        Due.due("find(0, true)", x.find(0, true), Due.UNKNOWN);
        Due.due("north() again", x.north(), 0);
        Due.due("told(0) again", x.told(0), 0);
    }

    // ---- promises 3, 4

    /** The same text told once more, so that all that would stay could be seen. */
    private static void sameNorthAgain() {
        Due.says("NIGHT 0, nobody lies, nothing DENTED, WIND as told; nothing FOUND, no BOOK; IMAGES, what could be undone are gone; THE SEED stays");
        String text = "n3 3;p0;p2;p3;w2;r2 2;";
        WingCensus x = Due.told(text);
        String fresh = Due.all(x);
        x.lie(0, 1);
        x.lie(1, 4);
        x.lie(2, 6);
        x.night(2);
        x.wind(3);
        x.seed(2147483647);
        x.keep(0);
        x.keep(1);
        for (int i = 0; i < 30; i++) x.hare(7);
        for (int i = 0; i < 6; i++) x.find(i, false);
        for (int i = 0; i < 20; i++) x.write(99);
        Due.feed(x, text);
        Due.due("north() again", x.north(), 3);
        Due.dueSame("all", Due.all(x), fresh);
        Due.due("NIGHT 0", x.told(5), 0);
        Due.due("nobody lies", x.told(7), 0);
        Due.dueDents("nothing DENTED", x, "000/000/000");
        Due.due("WIND as told", x.told(6), 2);
        Due.due("nothing FOUND", x.told(15), 0);
        Due.due("no BOOK", x.told(16), 0);
        Due.due("what could be undone", x.undo(1), Due.NOT);
        Due.due("IMAGE 0", x.goBack(0), Due.NOT);
        Due.due("IMAGE 1", x.goBack(1), Due.NOT);
        Due.due("THE SEED", x.seed(1), 2147483647);
        Due.due("find, the first again", x.find(0, true), 1);
        Due.due("write, the first again", x.write(0), 1);
        Due.says("WIND: 0 untold");
        x.wind(4);
        Due.feed(x, "n3 3;");
        x.north();
        Due.due("the wind, untold then", x.told(6), 0);
    }

    private static WingCensus lived() {
        WingCensus x = Due.told("n3 3;p0;p3;w1;r2 2;");
        x.seed(77);
        x.lie(0, 1);
        x.keep(0);
        x.night(2);
        x.lie(1, 6);
        x.wind(3);
        x.find(0, true);
        x.find(4, false);
        x.write(1);
        x.write(7);
        return x;
    }

    private static void allIsAsItWas() {
        Due.says("-10 less the number of its FAULT (all is as it was)");
        String[] texts = {"x", "n2 2;p0;w2;r0 0;p5;", "n7 7;p0;p1;p2;p3;n", "n3 3;r0 0;r1 1;r0 0;"};
        for (int i = 0; i < texts.length; i++) {
            WingCensus x = lived();
            Due.feed(x, texts[i]);
            Due.due("north() of [" + texts[i] + "]", x.north(), -11 - i);
            WingCensus y = lived();
            y.feed('x');
            y.north();
            int place = x.fault();
            Due.due("fault() of [" + texts[i] + "]", place, new int[] {0, 17, 17, 18}[i]);
            Due.feed(x, "x");
            x.north();
            Due.dueSame("all behind [" + texts[i] + "]", Due.spent(x), Due.spent(y));
            WingCensus z = lived();
            Due.feed(z, texts[i]);
            z.north();
            Due.dueSame("what can be seen behind [" + texts[i] + "]", Due.all(z), Due.all(lived()));
        }
        WingCensus none = new WingCensus();
        Due.feed(none, "n2 2;p0;x");
        Due.due("north() with a fault on a new object", none.north(), -11);
        Due.due("no north yet", none.told(0), 0);
        Due.due("no people yet", none.told(2), 0);
        Due.due("night(1)", none.night(1), Due.NOT);
    }

    private static void latestFault() {
        Due.says("The letter of the FAULT of the latest north(); NONE");
        WingCensus x = new WingCensus();
        Due.due("fault(), no north yet", x.fault(), Due.NONE);
        x.feed('x');
        Due.due("fault(), north() not called", x.fault(), Due.NONE);
        x.north();
        Due.due("fault(), the first letter", x.fault(), 0);
        Due.feed(x, "n2 2;x");
        Due.due("fault(), fed only", x.fault(), 0);
        x.north();
        Due.due("fault(), the sixth letter", x.fault(), 5);
        x.north();
        Due.due("fault(), an empty text", x.fault(), Due.NONE);
        x.feed('n');
        x.north();
        Due.due("fault(), the end", x.fault(), 1);
        Due.feed(x, "n2 2;");
        x.north();
        Due.due("fault(), none", x.fault(), Due.NONE);
    }
}
