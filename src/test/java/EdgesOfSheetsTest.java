import java.math.BigInteger;
import java.util.ArrayList;
import java.util.List;

/** The edges that the document names for sheets, count() and digest() (promises 28 to 35): a test for each sentence. */
public final class EdgesOfSheetsTest {
    private static final int NONE = -1, BAD = -2;
    private static final int NULL = -11, INDEX = -12, CAST = -13, STORE = -14, SIZE = -15;
    private static final int LEAST = Integer.MIN_VALUE;
    private static final int[] FAR = {Integer.MIN_VALUE, Integer.MAX_VALUE};

    public static void main(String[] args) {
        lostAtFirst();
        zeroToSixty();
        forms();
        findings();
        nullFinding();
        indexFinding();
        castFinding();
        storeFinding();
        sizeFinding();
        sheet();
        lose();
        lay();
        lowestBits();
        get();
        leastIntAsItem();
        copy();
        copyOntoItself();
        copyNotSoMany();
        copyRefused();
        write();
        writeRefused();
        count();
        countAtTheMost();
        digestOfNone();
        digestWraps();
        digestOfEach();
        digestWithout();
        Due.end("EdgesOfSheetsTest");
    }

    private static void lostAtFirst() {
        Due.sentence("SHEETS 0 .. 3 are LOST (at first)");
        for (int s = 0; s < 4; s++) {
            AfternoonChange x = new AfternoonChange();
            Due.is("lose", x.lose(s), NULL);
            Due.is("lay", x.lay(s, 0, 0, 0), NULL);
            Due.is("read", x.read(s), NULL);
            Due.is("write", x.write(0, s), NULL);
            Due.is("copy", x.copy(s, 0, s, 0, 0), NULL);
            Due.is("get", x.get(s, 0, 0), LEAST);
            Due.is("sheet", x.sheet(s, 0, 1), 1);
            for (int other = 0; other < 4; other++) {
                Due.is(other + " beside " + s, x.lose(other), other == s ? 1 : NULL);
            }
        }
    }

    private static void zeroToSixty() {
        Due.sentence("or a row of a FORM: 0 bytes, 1 shorts, 2 ints, of 0 to 60 items (0 at first).");
        for (int form = 0; form < 3; form++) {
            AfternoonChange x = new AfternoonChange();
            Due.is("60", x.sheet(3, form, 60), 60);
            Due.row("0 at first", Due.itemsOf(x, 3, form, 60), new int[60]);
            Due.is("a sixty-first", x.lay(3, form, 60, 1), INDEX);
            for (int i = 0; i < 60; i++) {
                x.lay(3, form, i, i + 1);
            }
            Due.is("the last", x.get(3, form, 59), 60);
            Due.is("59", x.sheet(3, form, 59), 59);
            Due.row("0 at first, anew", Due.itemsOf(x, 3, form, 59), new int[59]);
            Due.is("a sixtieth", x.get(3, form, 59), LEAST);
            Due.is("0", x.sheet(3, form, 0), 0);
            Due.is("a first", x.lay(3, form, 0, 1), INDEX);
            Due.is("it is not lost", x.lose(3), 0);
        }
    }

    private static void forms() {
        Due.sentence("0 bytes, 1 shorts, 2 ints");
        AfternoonChange x = new AfternoonChange();
        int[][] edges = {{-128, 127}, {-32768, 32767}, {Integer.MIN_VALUE, Integer.MAX_VALUE}};
        for (int form = 0; form < 3; form++) {
            Due.lay(x, form, form, edges[form]);
            Due.row("form " + form, Due.itemsOf(x, form, form, 2), edges[form]);
            for (int other = 0; other < 3; other++) {
                Due.is("as " + other, x.lay(form, other, 0, 0), other == form ? 1 : CAST);
            }
        }
    }

    private static AfternoonChange withSheets() {
        AfternoonChange x = Due.made("b09c", "cd");
        Due.lay(x, 0, 0, 1, 2, 3);
        Due.lay(x, 1, 1, 4, 5, 6);
        Due.lay(x, 2, 2, 7, 8, 9);
        return x;
    }

    private static void sheetsAreAsLaid(String call, AfternoonChange x) {
        for (int s = 0; s < 3; s++) {
            Due.row(call + ", sheet " + s, Due.itemsOf(x, s, s, 3), 3 * s + 1, 3 * s + 2, 3 * s + 3);
        }
    }

    private static void findings() {
        Due.sentence("FINDINGS (answers -10 less the number; they change nothing but count() 8)");
        AfternoonChange x = withSheets();
        Due.is("before any", x.count(8), 0);
        int[] answers = {x.lose(3), x.count(8), x.lay(0, 0, 3, 9), x.count(8), x.lay(0, 1, 0, 9), x.count(8),
            x.copy(0, 0, 1, 0, 1), x.count(8), x.sheet(0, 0, -1), x.count(8)};
        Due.row("each, and its number", answers, NULL, 1, INDEX, 2, CAST, 3, STORE, 4, SIZE, 5);
        sheetsAreAsLaid("behind them", x);
        Due.is("an act that is well leaves it", x.sheet(3, 0, 1), 1);
        Due.is("the latest", x.count(8), 5);
        Due.is("what is bad leaves it", x.lose(4), BAD);
        Due.is("the latest still", x.count(8), 5);
    }

    private static void nullFinding() {
        Due.sentence("1 NULL: the SHEET is LOST");
        AfternoonChange x = withSheets();
        x.lose(1);
        int[] answers = {x.lose(1), x.lay(1, 1, 0, 0), x.copy(1, 0, 0, 0, 1), x.copy(0, 0, 1, 0, 1), x.write(0, 1),
            x.read(1)};
        Due.row("a lost one", answers, NULL, NULL, NULL, NULL, NULL, NULL);
        Due.is("not lost without items", x.sheet(1, 1, 0), 0);
        Due.is("write to none", x.write(0, 1), 0);
        Due.is("read of none", x.read(1), 0);
        Due.is("copy of none", x.copy(1, 0, 1, 0, 0), 1);
    }

    private static void indexFinding() {
        Due.sentence("2 INDEX: there is no such item");
        AfternoonChange x = withSheets();
        Due.is("item -1", x.lay(0, 0, -1, 9), INDEX);
        Due.is("item 0", x.lay(0, 0, 0, 1), 1);
        Due.is("item 2", x.lay(0, 0, 2, 3), 1);
        Due.is("item 3", x.lay(0, 0, 3, 9), INDEX);
        for (int far : FAR) {
            Due.is("a far item", x.lay(0, 0, far, 9), INDEX);
        }
        sheetsAreAsLaid("behind it", x);
    }

    private static void castFinding() {
        Due.sentence("3 CAST: it has another FORM");
        AfternoonChange x = withSheets();
        for (int s = 0; s < 3; s++) {
            for (int form = 0; form < 3; form++) {
                Due.is("lay " + s + " as " + form, x.lay(s, form, 0, 3 * s + 1), s == form ? 1 : CAST);
                Due.is("get " + s + " as " + form, x.get(s, form, 0), s == form ? 3 * s + 1 : LEAST);
            }
        }
        sheetsAreAsLaid("behind it", x);
        x.sheet(0, 2, 3);
        Due.is("a new form", x.lay(0, 2, 0, 1), 1);
        Due.is("no longer the old one", x.lay(0, 0, 0, 1), CAST);
    }

    private static void storeFinding() {
        Due.sentence("4 STORE: unlike FORMS");
        AfternoonChange x = withSheets();
        for (int s = 0; s < 3; s++) {
            for (int t = 0; t < 3; t++) {
                Due.is("copy " + s + " to " + t, x.copy(s, 0, t, 0, 1), s == t ? 1 : STORE);
                Due.is("none of " + s + " to " + t, x.copy(s, 0, t, 0, 0), s == t ? 1 : STORE);
            }
        }
        sheetsAreAsLaid("behind it", x);
    }

    private static void sizeFinding() {
        Due.sentence("5 SIZE: below 0.");
        AfternoonChange x = withSheets();
        Due.is("-1", x.sheet(0, 0, -1), SIZE);
        Due.is("far below", x.sheet(1, 0, Integer.MIN_VALUE), SIZE);
        Due.is("of a lost one", x.sheet(3, 2, -60), SIZE);
        Due.is("it is still lost", x.lose(3), NULL);
        sheetsAreAsLaid("behind it", x);
    }

    private static void sheet() {
        Due.sentence("A SHEET is a new row of a FORM with n items: n. BAD: SHEET, FORM, above 60; SIZE.");
        AfternoonChange x = withSheets();
        int[][] wrong = {{-1, 0, 1}, {4, 0, 1}, {0, -1, 1}, {0, 3, 1}, {0, 0, 61}, {-1, 0, -1}, {4, 0, -1}, {0, -1, -1},
            {0, 3, -1}, {0, 0, Integer.MAX_VALUE}};
        for (int[] w : wrong) {
            Due.is("sheet(" + w[0] + ", " + w[1] + ", " + w[2] + ")", x.sheet(w[0], w[1], w[2]), BAD);
        }
        for (int far : FAR) {
            Due.is("a far sheet", x.sheet(far, 0, 1), BAD);
            Due.is("a far form", x.sheet(0, far, 1), BAD);
        }
        Due.is("no finding", x.count(8), 0);
        sheetsAreAsLaid("refused", x);
        Due.is("60", x.sheet(0, 0, 60), 60);
        Due.is("a new row", x.get(0, 0, 0), 0);
        Due.is("0", x.sheet(0, 0, 0), 0);
        Due.is("3", x.sheet(0, 0, 3), 3);
        Due.row("not the old items", Due.itemsOf(x, 0, 0, 3), 0, 0, 0);
    }

    private static void lose() {
        Due.sentence("It is LOST: how many items it had. BAD; NULL.");
        AfternoonChange x = new AfternoonChange();
        int[] sizes = {0, 1, 59, 60};
        for (int s = 0; s < 4; s++) {
            x.sheet(s, s % 3, sizes[s]);
        }
        Due.is("sheet -1", x.lose(-1), BAD);
        Due.is("sheet 4", x.lose(4), BAD);
        for (int far : FAR) {
            Due.is("a far sheet", x.lose(far), BAD);
        }
        for (int s = 0; s < 4; s++) {
            Due.is("how many", x.lose(s), sizes[s]);
            Due.is("no finding yet", x.count(8), s == 0 ? 0 : 1);
            Due.is("lost", x.lose(s), NULL);
        }
    }

    private static void lay() {
        Due.sentence("Item i, treated as of a FORM, becomes v (the lowest bits that it has): 1. BAD; NULL; CAST; INDEX.");
        AfternoonChange x = withSheets();
        Due.is("sheet -1", x.lay(-1, 0, 0, 9), BAD);
        Due.is("sheet 4", x.lay(4, 0, 0, 9), BAD);
        Due.is("form -1", x.lay(0, -1, 0, 9), BAD);
        Due.is("form 3", x.lay(0, 3, 0, 9), BAD);
        for (int far : FAR) {
            Due.is("a far sheet", x.lay(far, 0, 0, 9), BAD);
            Due.is("a far form", x.lay(0, far, 0, 9), BAD);
        }
        Due.is("bad ahead of null", x.lay(3, 3, 0, 9), BAD);
        Due.is("no finding", x.count(8), 0);
        Due.is("null ahead of cast and index", x.lay(3, 1, -1, 9), NULL);
        Due.is("cast ahead of index", x.lay(0, 1, 3, 9), CAST);
        Due.is("index", x.lay(0, 0, 3, 9), INDEX);
        sheetsAreAsLaid("refused", x);
        Due.is("the last item", x.lay(2, 2, 2, -9), 1);
        Due.row("that item alone", Due.itemsOf(x, 2, 2, 3), 7, 8, -9);
    }

    private static void lowestBits() {
        Due.sentence("becomes v (the lowest bits that it has)");
        AfternoonChange x = withSheets();
        int[] laid = {127, 128, 255, 256, -128, -129, 32767, 32768, 65535, 65536, -32769, Integer.MAX_VALUE,
            Integer.MIN_VALUE};
        int[] bytes = {127, -128, -1, 0, -128, 127, -1, 0, -1, 0, -1, -1, 0};
        int[] shorts = {127, 128, 255, 256, -128, -129, 32767, -32768, -1, 0, 32767, -1, 0};
        for (int i = 0; i < laid.length; i++) {
            for (int form = 0; form < 3; form++) {
                Due.is("lay " + laid[i], x.lay(form, form, 1, laid[i]), 1);
            }
            Due.is("a byte of " + laid[i], x.get(0, 0, 1), bytes[i]);
            Due.is("a short of " + laid[i], x.get(1, 1, 1), shorts[i]);
            Due.is("an int of " + laid[i], x.get(2, 2, 1), laid[i]);
        }
    }

    private static void get() {
        Due.sentence("Item i of it. BAD: the least int; so are NULL, CAST, INDEX (count() 8 tells).");
        AfternoonChange x = withSheets();
        Due.is("the first", x.get(1, 1, 0), 4);
        Due.is("the last", x.get(1, 1, 2), 6);
        int[][] bad = {{-1, 0, 0}, {4, 0, 0}, {0, -1, 0}, {0, 3, 0}, {LEAST, 0, 0}, {Integer.MAX_VALUE, 0, 0},
            {0, LEAST, 0}, {0, Integer.MAX_VALUE, 0}, {3, 3, 0}};
        for (int[] w : bad) {
            Due.is("bad", x.get(w[0], w[1], w[2]), LEAST);
            Due.is("bad is no finding", x.count(8), 0);
        }
        int[][] found = {{3, 0, 0, 1}, {3, 1, -1, 1}, {0, 1, 0, 3}, {0, 2, -1, 3}, {0, 0, -1, 2}, {0, 1, 3, 3},
            {0, 0, 3, 2}, {2, 2, LEAST, 2}, {3, 2, 0, 1}, {2, 2, Integer.MAX_VALUE, 2}};
        for (int[] w : found) {
            Due.is("found", x.get(w[0], w[1], w[2]), LEAST);
            Due.is("get(" + w[0] + ", " + w[1] + ", " + w[2] + ") tells", x.count(8), w[3]);
        }
        Due.is("an item is no finding", x.get(0, 0, 0), 1);
        Due.is("the latest stays", x.count(8), 2);
    }

    private static void leastIntAsItem() {
        Due.sentence("(count() 8 tells)");
        AfternoonChange x = withSheets();
        x.lay(2, 2, 0, LEAST);
        Due.is("an item that is the least int", x.get(2, 2, 0), LEAST);
        Due.is("no finding", x.count(8), 0);
    }

    private static void copy() {
        Due.sentence("n items of SHEET s, from i on, come to SHEET t");
        AfternoonChange x = new AfternoonChange();
        Due.lay(x, 0, 2, 10, 11, 12, LEAST);
        x.sheet(1, 2, 3);
        Due.is("none, at the ends", x.copy(0, 4, 1, 3, 0), 1);
        Due.is("none, at the start", x.copy(0, 0, 1, 0, 0), 1);
        Due.row("none came", Due.itemsOf(x, 1, 2, 3), 0, 0, 0);
        Due.is("the last to the last", x.copy(0, 3, 1, 2, 1), 1);
        Due.row("the last came", Due.itemsOf(x, 1, 2, 3), 0, 0, LEAST);
        Due.is("as many as there are", x.copy(0, 0, 1, 0, 3), 1);
        Due.row("all came", Due.itemsOf(x, 1, 2, 3), 10, 11, 12);
        Due.row("they stay where they were", Due.itemsOf(x, 0, 2, 4), 10, 11, 12, LEAST);
        x = new AfternoonChange();
        x.sheet(0, 0, 60);
        x.sheet(1, 0, 60);
        x.lay(0, 0, 59, 7);
        Due.is("sixty", x.copy(0, 0, 1, 0, 60), 1);
        Due.is("the sixtieth", x.get(1, 0, 59), 7);
        Due.is("sixty-one", x.copy(0, 0, 1, 0, 61), INDEX);
    }

    private static void copyOntoItself() {
        Due.sentence("(perhaps s, as they were)");
        AfternoonChange x = new AfternoonChange();
        Due.lay(x, 3, 1, 1, 2, 3, 4, 5);
        Due.is("up", x.copy(3, 0, 3, 1, 4), 1);
        Due.row("up", Due.itemsOf(x, 3, 1, 5), 1, 1, 2, 3, 4);
        Due.is("down", x.copy(3, 1, 3, 0, 4), 1);
        Due.row("down", Due.itemsOf(x, 3, 1, 5), 1, 2, 3, 4, 4);
        Due.is("in place", x.copy(3, 0, 3, 0, 5), 1);
        Due.row("in place", Due.itemsOf(x, 3, 1, 5), 1, 2, 3, 4, 4);
    }

    private static void copyNotSoMany() {
        Due.sentence("INDEX: below 0, not so many.");
        AfternoonChange x = new AfternoonChange();
        Due.lay(x, 0, 2, 1, 2, 3, 4, 5);
        x.sheet(1, 2, 3);
        int[][] wrong = {{-1, 0, 1}, {0, -1, 1}, {0, 0, -1}, {-1, 0, 0}, {0, -1, 0}, {3, 0, 3}, {0, 1, 3}, {0, 0, 4}, {6, 0, 0},
            {0, 4, 0}, {5, 0, 1}, {0, 3, 1}, {0, 0, 6}};
        for (int[] w : wrong) {
            Due.is("copy(0, " + w[0] + ", 1, " + w[1] + ", " + w[2] + ")", x.copy(0, w[0], 1, w[1], w[2]), INDEX);
            Due.is("the finding", x.count(8), 2);
        }
        for (int far : FAR) {
            Due.is("a far i", x.copy(0, far, 1, 0, 1), INDEX);
            Due.is("a far j", x.copy(0, 0, 1, far, 1), INDEX);
            Due.is("a far n", x.copy(0, 0, 1, 0, far), INDEX);
            Due.is("a far n behind the first", x.copy(0, 1, 1, 1, far), INDEX);
            Due.is("all far", x.copy(0, far, 1, far, far), INDEX);
        }
        Due.row("nothing came", Due.itemsOf(x, 1, 2, 3), 0, 0, 0);
        Due.is("as many as there are", x.copy(0, 2, 1, 0, 3), 1);
    }

    private static void copyRefused() {
        Due.sentence("BAD: the SHEETS; NULL: s, t; STORE; INDEX");
        AfternoonChange x = withSheets();
        int[][] bad = {{-1, 0}, {4, 0}, {0, -1}, {0, 4}, {3, 4}, {4, 3}, {-1, 3}, {3, -1}, {LEAST, 0}, {0, LEAST},
            {Integer.MAX_VALUE, 0}, {0, Integer.MAX_VALUE}};
        for (int[] w : bad) {
            Due.is("bad " + w[0] + ", " + w[1], x.copy(w[0], -1, w[1], -1, -1), BAD);
        }
        Due.is("no finding", x.count(8), 0);
        Due.is("s is lost, index", x.copy(3, -1, 0, 0, 1), NULL);
        Due.is("t is lost, index", x.copy(0, -1, 3, 0, 1), NULL);
        Due.is("both are lost", x.copy(3, 0, 3, 0, 0), NULL);
        Due.is("store ahead of index", x.copy(0, -1, 1, -1, -1), STORE);
        sheetsAreAsLaid("refused", x);
    }

    private static void write() {
        Due.sentence("THE BAG behind a DAY, from the top, comes to a SHEET from item 0 on, as many as there are items and AFTERNOONS "
            + "in it: how many.");
        AfternoonChange x = Due.made("b09c;c09d", "dHh");
        for (int form = 0; form < 3; form++) {
            Due.lay(x, 0, form, 9, 9, 9, 9);
            Due.is("one item more", x.write(0, 0), 3);
            Due.row("one item more", Due.itemsOf(x, 0, form, 4), 15, 7, 2, 9);
            Due.is("behind day 9", x.write(9, 0), 3);
            Due.row("behind day 9", Due.itemsOf(x, 0, form, 4), 15, 7, 1, 9);
            Due.lay(x, 0, form, 9, 9, 9);
            Due.is("as many items", x.write(1, 0), 3);
            Due.lay(x, 0, form, 9, 9);
            Due.is("one item less", x.write(0, 0), 2);
            Due.row("one item less", Due.itemsOf(x, 0, form, 2), 15, 7);
            x.sheet(0, form, 0);
            Due.is("no items", x.write(0, 0), 0);
        }
        x.wipe(1);
        Due.lay(x, 0, 0, 9);
        Due.is("an empty bag", x.write(0, 0), 0);
        Due.row("an empty bag", Due.itemsOf(x, 0, 0, 1), 9);
        x = Due.made("b09c;b09c;d09e;d09e;e09f;e09f;f09g;f09g", "CEFGAAAAAAAAAAAA", 2, 32, 255);
        x.sheet(3, 0, 60);
        Due.is("a full bag", x.write(0, 3), 28);
        Due.row("its last", new int[] {x.get(3, 0, 27), x.get(3, 0, 28)}, 6, 0);
    }

    private static void writeRefused() {
        Due.sentence("BAD; NULL.");
        AfternoonChange x = withSheets();
        int[][] bad = {{-1, 0}, {10, 0}, {0, -1}, {0, 4}, {10, 3}, {-1, 3}, {LEAST, 0}, {Integer.MAX_VALUE, 0}, {0, LEAST},
            {0, Integer.MAX_VALUE}};
        for (int[] w : bad) {
            Due.is("write(" + w[0] + ", " + w[1] + ")", x.write(w[0], w[1]), BAD);
        }
        Due.is("no finding", x.count(8), 0);
        Due.is("a lost one", x.write(9, 3), NULL);
        sheetsAreAsLaid("refused", x);
    }

    private static void count() {
        Due.sentence("8 the number of the latest FINDING (0 before any). BAD.");
        AfternoonChange x = new AfternoonChange();
        int[] due = {0, 0, 0, 0, 0, 0, 32, 0, 0};
        for (int what = 0; what < 9; what++) {
            Due.is("at first, what = " + what, x.count(what), due[what]);
        }
        Due.is("what = -1", x.count(-1), BAD);
        Due.is("what = 9", x.count(9), BAD);
        for (int far : FAR) {
            Due.is("a far what", x.count(far), BAD);
        }
        Due.is("not an act that was bad", x.count(8), 0);
    }

    private static void countAtTheMost() {
        Due.sentence("0 RIDERS, 1 AFTERNOONS in THE BAG at first, 2, 3 bytes of texts, 4 changes in all DAYS (one by a torn one is "
            + "one), 5 SERVED behind DAY 9, 6 CHANGES, as bits, 7 SEEN");
        AfternoonChange x = Due.made("b09c;b09c;d09e;d09e;e09f;e09f;f09g;f09g", "CEFGAAAAAAAAAAAA", 2, 1023, 0);
        for (int n = 0; n < 8; n++) {
            x.seen(0, 0, 0);
        }
        int[] due = {8, 16, 39, 16, 4, 8, 1023, 8, 0};
        for (int what = 0; what < 9; what++) {
            Due.is("what = " + what, x.count(what), due[what]);
        }
        x.set(2, 255);
        Due.is("changes, though all was left", x.count(4), 4);
        Due.is("none is served then", x.count(5), 0);
        Due.is("at first", x.count(1), 16);
        x = Due.made("g09h;h09g;g09f;f09e;e09d;d09c;c09b;b09a", "a");
        Due.is("eight changes on eight days", x.count(4), 8);
        Due.is("with faults", Due.made("b09c;", "i").count(0) + Due.made("b09c;", "i").count(1), 0);
        Due.is("bytes with faults", Due.made("b09c;", "i").count(2) * 10 + Due.made("b09c;", "i").count(3), 51);
    }

    private static long digestOf(long... each) {
        long h = 17;
        for (long e : each) {
            h = 31 * h + e;
        }
        return h;
    }

    private static void digestOfNone() {
        Due.sentence("h is 17; h becomes 31 h and each of");
        Due.is("a new object's", new AfternoonChange().digest(), digestOf(0, 0, 0, 0, 0, 0, 32, 0, NONE, NONE,
            0, 0, NONE, NONE, 0, 0, NONE, NONE, 0, 0, NONE, NONE, NONE, NONE, NONE, 0, 0, NONE, 0, 0, 0, 0, 1023, 0, 9));
        Due.is("with faults", Due.made("b", "bci").digest(), digestOf(0, 0, 1, 3, 0, 0, 32, 0, 1, 2,
            0, 0, NONE, NONE, 0, 0, NONE, NONE, 0, 0, NONE, NONE, NONE, NONE, NONE, 0, 0, NONE, 0, 0, 0, 0, 1023, 0, 9));
    }

    private static void digestWraps() {
        Due.sentence("as longs that wrap.");
        BigInteger h = BigInteger.valueOf(17);
        AfternoonChange x = Due.made("b09c;c09b;h55h", "cD", 2, 1023, 4);
        for (long e : eachOf(x, 3)) {
            h = h.multiply(BigInteger.valueOf(31)).add(BigInteger.valueOf(e));
        }
        Due.is("the lowest 64 bits", x.digest(), h.longValue());
        Due.holds("they are not all of it", h.bitLength() > 64);
    }

    private static long[] eachOf(AfternoonChange x, int riders) {
        List<Long> each = new ArrayList<>();
        for (int what = 0; what <= 7; what++) {
            each.add((long) x.count(what));
        }
        each.add((long) x.fault(0));
        each.add((long) x.fault(1));
        for (int r = 0; r < riders; r++) {
            int[] row = {x.rider(r, 0), x.rider(r, 1), x.rider(r, 2), x.rider(r, 3), x.has(0, r), x.has(9, r), x.torn(9, r),
                x.gets(r), x.open(r, 0), x.open(r, 1), x.had(r)};
            for (int e : row) {
                each.add((long) e);
            }
            each.add(x.maybe(5, 3, r, 0));
            each.add(x.maybe(5, 3, r, 1));
        }
        for (int day : new int[] {0, 4, 9}) {
            for (int e : new int[] {x.served(day), x.bag(day, NONE), x.bag(day, 0), x.ask(day)}) {
                each.add((long) e);
            }
        }
        int[] rest = {x.first(0), x.first(1), x.first(2), x.still(), x.rings(0), x.rings(1), x.least(0), x.least(1), x.top(0),
            x.top(1), x.was(), x.depot(7, 9, 0), x.depot(7, 9, 1)};
        for (int e : rest) {
            each.add((long) e);
        }
        return each.stream().mapToLong(e -> e).toArray();
    }

    private static void digestOfEach() {
        Due.sentence("of RIDERS rider() 0 to 3, has(0, it), has(9, it), torn(9, it), gets(), open() 0, 1, had(), "
            + "maybe(5, 3, it), above, below; of DAYS 0, 4, 9 served(), bag(it, NONE), bag(it, 0), ask()");
        // the first one's changes come one a day, so that no two of days 0 to 7 are alike
        String[] riders = {"g09h;h09g;g09f;f09e;e09d;d09c;c09b;b09a", "b09c;d09c;e09f", "b04c;c59d;d69b;h39g", "a00a"};
        String[] bags = {"a", "CfH", "dBg", ""};
        for (int i = 0; i < 4; i++) {
            AfternoonChange x = Due.made(riders[i], bags[i], 2, i == 0 ? 32 : 33, i);
            x.seen(0, 0, 1);
            int n = x.count(0);
            Due.is("digest of " + riders[i], x.digest(), digestOf(eachOf(x, n)));
        }
        Due.sentence("depot(7, 9, 0 and 1)");
        // one b is among 9 lots by 7; none among 8, two among 10, and two among 9 by 6 or by 8
        AfternoonChange x = Due.made("c09b;c09b", "");
        Due.is("the depot", x.depot(7, 9, 0), 1);
        Due.is("digest of it", x.digest(), digestOf(eachOf(x, 2)));
    }

    private static void digestWithout() {
        Due.sentence("count() 0 to 7");
        AfternoonChange x = withSheets();
        AfternoonChange y = Due.made("b09c", "cd");
        Due.is("sheets don't matter", x.digest(), y.digest());
        x.lose(3);
        Due.is("nor do findings", x.digest(), y.digest());
        x.seen(0, 0, 2);
        Due.holds("but what was seen does", x.digest() != y.digest());
    }
}
