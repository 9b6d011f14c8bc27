/** One method for each promise of the document: ordinary inputs, the edges it names, wrong inputs. Answers are worked out by hand. */
public final class PromisesTest {
    private static final int NONE = -1, BAD = -2, NOT = -3, FULL = -4;
    private static final int NULL = -11, INDEX = -12, CAST = -13, STORE = -14, SIZE = -15;
    private static final int LEAST = Integer.MIN_VALUE;
    /** Each needs what the next one has, on the next one's part of the way; the last one finds his in the bag f. */
    private static final String CHAIN = "b02c;c56d;d34e;e89f";

    /** One changes on each of days 0 to 7, the last one first, with the bag a. */
    private static final String SLOW = "g09h;h09g;g09f;f09e;e09d;d09c;c09b;b09a";

    public static void main(String[] args) {
        newObject();
        type();
        wipe();
        undo();
        fault();
        rider();
        worth();
        set();
        has();
        changing();
        torn();
        bag();
        gets();
        first();
        still();
        served();
        rings();
        open();
        least();
        top();
        seen();
        forget();
        read();
        had();
        was();
        ask();
        maybe();
        depot();
        sheet();
        lose();
        lay();
        get();
        copy();
        write();
        count();
        digest();
        Due.end("PromisesTest");
    }

    private static void newObject() {
        AfternoonChange x = new AfternoonChange();
        Due.is("1 riders", x.count(0), 0);
        Due.is("1 bag", x.count(1), 0);
        Due.is("1 bytes 0", x.count(2), 0);
        Due.is("1 bytes 1", x.count(3), 0);
        Due.is("1 changes told", x.count(6), 32);
        Due.is("1 seen", x.count(7), 0);
        Due.is("1 finding", x.count(8), 0);
        Due.is("1 bag behind day 9", x.bag(9, NONE), 0);
        for (int s = 0; s < 4; s++) {
            Due.is("1 lose(" + s + ")", x.lose(s), NULL);
        }
        AfternoonChange other = new AfternoonChange();
        Due.is("1 the other one's finding", other.count(8), 0);
    }

    private static void type() {
        AfternoonChange x = new AfternoonChange();
        Due.is("2 type(-1, 0)", x.type(-1, 0), BAD);
        Due.is("2 type(2, 0)", x.type(2, 0), BAD);
        Due.is("2 type(0, -1)", x.type(0, -1), BAD);
        Due.is("2 type(0, 256)", x.type(0, 256), BAD);
        Due.is("2 type(0, 255)", x.type(0, 255), 1);
        Due.is("2 type(0, 0)", x.type(0, 0), 2);
        for (int n = 3; n <= 39; n++) {
            Due.is("2 type to 0", x.type(0, 'a'), n);
        }
        Due.is("2 a fortieth", x.type(0, 'a'), FULL);
        Due.is("2 a bad one when full", x.type(0, 256), BAD);
        for (int n = 1; n <= 16; n++) {
            Due.is("2 type to 1", x.type(1, 'H'), n);
        }
        Due.is("2 a seventeenth", x.type(1, 'H'), FULL);
        Due.is("2 bytes 0", x.count(2), 39);
        Due.is("2 bytes 1", x.count(3), 16);
    }

    private static void wipe() {
        AfternoonChange x = Due.made("b09c;d09e", "cE");
        Due.is("3 wipe(-1)", x.wipe(-1), BAD);
        Due.is("3 wipe(2)", x.wipe(2), BAD);
        Due.is("3 wipe(0)", x.wipe(0), 9);
        Due.is("3 wipe(0) again", x.wipe(0), 0);
        Due.is("3 riders", x.count(0), 0);
        Due.is("3 the bag stays", x.bag(9, NONE), 2);
        Due.is("3 wipe(1)", x.wipe(1), 2);
        Due.is("3 bag", x.bag(9, NONE), 0);
        Due.is("3 type behind it", x.type(0, 'b'), 1);
    }

    private static void undo() {
        AfternoonChange x = Due.made("b09c;", "cc");
        Due.is("4 undo(-1)", x.undo(-1), BAD);
        Due.is("4 undo(2)", x.undo(2), BAD);
        Due.is("4 riders, not ended", x.count(0), 0);
        Due.is("4 undo(0)", x.undo(0), 4);
        Due.is("4 riders", x.count(0), 1);
        Due.is("4 undo(1)", x.undo(1), 1);
        Due.is("4 bag", x.count(1), 1);
        Due.is("4 undo(1) to none", x.undo(1), 0);
        Due.is("4 undo(1) of none", x.undo(1), NOT);
        Due.is("4 bytes 1", x.count(3), 0);
        Due.is("4 bytes 0", x.count(2), 4);
    }

    private static int faultOf(int text, String s) {
        AfternoonChange x = new AfternoonChange();
        Due.type(x, text, s);
        return x.fault(text);
    }

    private static void fault() {
        AfternoonChange x = new AfternoonChange();
        Due.is("5 fault(-1)", x.fault(-1), BAD);
        Due.is("5 fault(2)", x.fault(2), BAD);
        Due.is("5 none", x.fault(0), NONE);
        Due.is("5 no bag", x.fault(1), NONE);
        String[] riders = {"a", "a0", "a09", "a09h;", "i", "`", "A", "0", "ax", "a/", "a:", "a0x", "a09i", "a09`",
            "a09h,", "a09hb", "a09h;;", "a09h;b1c", "a09h;b19"};
        int[] due = {1, 2, 3, 5, 0, 0, 0, 0, 1, 1, 1, 2, 3, 3, 4, 4, 5, 7, 8};
        for (int i = 0; i < due.length; i++) {
            Due.is("5 fault of " + riders[i], faultOf(0, riders[i]), due[i]);
        }
        Due.is("5 one", faultOf(0, "a09h"), NONE);
        Due.is("5 leaves ahead of boarding", faultOf(0, "a90h"), NONE);
        Due.is("5 eight", faultOf(0, "a00a;a00a;a00a;a00a;a00a;a00a;a00a;h99h"), NONE);
        Due.is("5 all kinds", faultOf(1, "abcdefghABCDEFGH"), NONE);
        Due.is("5 bag i", faultOf(1, "hi"), 1);
        Due.is("5 bag I", faultOf(1, "HHI"), 2);
        Due.is("5 bag @", faultOf(1, "@a"), 0);
        Due.is("5 bag `", faultOf(1, "a`b"), 1);
        AfternoonChange y = Due.made("b09c;x", "cI");
        Due.is("5 riders as if empty", y.count(0), 0);
        Due.is("5 bag as if empty", y.count(1), 0);
        Due.is("5 bag behind 0 as if empty", y.bag(0, NONE), 0);
        Due.is("5 has of none", y.has(0, 0), BAD);
    }

    private static void rider() {
        AfternoonChange x = Due.made("b37c;h90a", "c");
        int[][] due = {{1, 3, 7, 2}, {7, 9, 0, 0}};
        for (int r = 0; r < 2; r++) {
            for (int what = 0; what < 4; what++) {
                Due.is("6 rider(" + r + ", " + what + ")", x.rider(r, what), due[r][what]);
            }
        }
        Due.is("6 rider(2, 0)", x.rider(2, 0), BAD);
        Due.is("6 rider(-1, 0)", x.rider(-1, 0), BAD);
        Due.is("6 rider(0, 4)", x.rider(0, 4), BAD);
        Due.is("6 rider(0, -1)", x.rider(0, -1), BAD);
    }

    private static void worth() {
        AfternoonChange x = Due.made("b09c", "c");
        for (int a = 0; a < 8; a++) {
            Due.is("7 at first", x.worth(a, a + 1), a + 1);
        }
        Due.is("7 worth(-1, 0)", x.worth(-1, 0), BAD);
        Due.is("7 worth(8, 0)", x.worth(8, 0), BAD);
        Due.is("7 worth(1, -1)", x.worth(1, -1), BAD);
        Due.is("7 worth(1, 10)", x.worth(1, 10), BAD);
        Due.is("7 as it was, changes", x.has(0, 0), 2);
        Due.is("7 worth(1, 6)", x.worth(1, 6), 2);
        Due.is("7 3 more, no change", x.has(0, 0), 1);
        Due.is("7 worth(1, 5)", x.worth(1, 5), 6);
        Due.is("7 2 more, changes", x.has(0, 0), 2);
        Due.is("7 worth(1, 0)", x.worth(1, 0), 5);
        Due.is("7 3 less, no change", x.has(0, 0), 1);
        Due.is("7 worth(1, 9)", x.worth(1, 9), 0);
    }

    private static void set() {
        AfternoonChange x = Due.made("b08e", "e");
        Due.is("8 set(-1, 0)", x.set(-1, 0), BAD);
        Due.is("8 set(3, 0)", x.set(3, 0), BAD);
        int[] most = {9, 1023, 255};
        int[] first = {2, 32, 0};
        for (int what = 0; what < 3; what++) {
            Due.is("8 below 0", x.set(what, -1), BAD);
            Due.is("8 above the most", x.set(what, most[what] + 1), BAD);
            Due.is("8 at first", x.set(what, most[what]), first[what]);
            Due.is("8 the most", x.set(what, 0), most[what]);
            Due.is("8 back", x.set(what, first[what]), 0);
        }
        Due.is("8 EVEN 2", x.has(0, 0), 1);
        x.set(0, 3);
        Due.is("8 EVEN 3", x.has(0, 0), 4);
        x.set(1, 256);
        Due.is("8 CHANGES behind his way", x.has(0, 0), 1);
        x.set(1, 128);
        Due.is("8 CHANGES at its end", x.has(0, 0), 4);
        x.set(2, 1);
        Due.is("8 FORGETS", x.has(0, 0), NONE);
        Due.is("8 count 6", x.count(6), 128);
    }

    private static void has() {
        AfternoonChange x = Due.made("b09c;c09d", "d");
        Due.is("9 has(-1, 0)", x.has(-1, 0), BAD);
        Due.is("9 has(10, 0)", x.has(10, 0), BAD);
        Due.is("9 has(0, -1)", x.has(0, -1), BAD);
        Due.is("9 has(0, 2)", x.has(0, 2), BAD);
        // the first asks before the second has put his into the bag: it is there the next day
        Due.is("9 has(0, 0)", x.has(0, 0), 1);
        Due.is("9 has(0, 1)", x.has(0, 1), 3);
        Due.is("9 has(1, 0)", x.has(1, 0), 2);
        Due.is("9 has(9, 0)", x.has(9, 0), 2);
        x.set(2, 2);
        Due.is("9 left on the seat", x.has(0, 1), NONE);
        Due.is("9 none for good", x.has(9, 1), NONE);
    }

    private static int hasAtLast(String riders, String bag, int rider) {
        return Due.made(riders, bag).has(9, rider);
    }

    /** The rules of a stop, told under has(). */
    private static void changing() {
        Due.is("9 no Monday is taken", hasAtLast("a09b", "b", 0), 0);
        Due.is("9 a Monday may be wanted", hasAtLast("b09a", "a", 0), 0);
        Due.is("9 as even as 2", hasAtLast("b09d", "d", 0), 3);
        Due.is("9 not as even as 3", hasAtLast("b09e", "e", 0), 1);
        Due.is("9 not as even, down", hasAtLast("e09b", "b", 0), 4);
        Due.is("9 boards there", hasAtLast("b59c", "c", 0), 2);
        Due.is("9 leaves there", hasAtLast("b05c", "c", 0), 1);
        Due.is("9 boards behind it", hasAtLast("b69c", "c", 0), 1);
        Due.is("9 leaves where it boards", hasAtLast("b55c", "c", 0), 1);
        Due.is("9 leaves ahead of it", hasAtLast("b94c", "c", 0), 1);
        Due.is("9 one alone takes no torn one", hasAtLast("b09c", "C", 0), 1);
        Due.is("9 two take a torn one", hasAtLast("b09c;d09c", "C", 1), 2);
        Due.is("9 one not on board", hasAtLast("b09c;d04c", "C", 0), 1);
        Due.is("9 one not so even", hasAtLast("b09c;h09c", "C", 0), 1);
        Due.is("9 one with a Monday", hasAtLast("b09c;a09c", "C", 0), 1);
        Due.is("9 one that has it", hasAtLast("b09c;c09c", "C", 0), 1);
        Due.is("9 the least other one", hasAtLast("b09c;d09c;e09c", "C", 1), 2);
        Due.is("9 not a greater one", hasAtLast("b09c;d09c;e09c", "C", 2), 4);
        Due.is("9 whole ones first", hasAtLast("b09c;d09c", "Cc", 1), 3);
        AfternoonChange x = Due.made("c05a;b59c", "");
        x.set(2, 1);
        Due.is("9 what is left is there for one who boards", x.has(0, 1), 2);
        Due.is("9 the one who left it", x.has(0, 0), NONE);
        Due.row("9 its bag", Due.bagOf(x, 0), 1);
        x = Due.made("c55b;b59c", "");
        x.set(2, 1);
        Due.is("9 who never boards leaves nothing", x.has(9, 0), 2);
    }

    private static void torn() {
        AfternoonChange x = Due.made("b09c;d07c;e09d", "C");
        Due.is("10 torn(-1, 0)", x.torn(-1, 0), BAD);
        Due.is("10 torn(10, 0)", x.torn(10, 0), BAD);
        Due.is("10 torn(0, -1)", x.torn(0, -1), BAD);
        Due.is("10 torn(0, 3)", x.torn(0, 3), BAD);
        Due.is("10 the one", x.torn(0, 0), 1);
        Due.is("10 the other one", x.torn(9, 1), 1);
        Due.is("10 a whole one", x.has(0, 2), 3);
        Due.is("10 is not torn", x.torn(0, 2), 0);
        x.set(2, 2);
        Due.is("10 left on the seat", x.torn(0, 1), 0);
        Due.is("10 the one that stays", x.torn(0, 0), 1);
        x = Due.made("b09c;e09d;h09d", "cD");
        x.set(0, 9);
        Due.is("10 a pair among others", x.torn(0, 1), 1);
        Due.is("10 a whole one beside it", x.torn(0, 0), 0);
        Due.is("10 by days up to it", Due.made("c09d", "d").torn(9, 0), 0);
        x = Due.made("b09c;e09f;d09c;g09f;h09g", "FC");
        Due.row("10 two pairs", new int[] {x.torn(0, 0), x.torn(0, 1), x.torn(0, 2), x.torn(0, 3), x.torn(0, 4)},
            1, 1, 1, 1, 0);
        Due.row("10 two pairs, the bag", Due.bagOf(x, 0), 1, 3, 4, 7);
    }

    private static void bag() {
        AfternoonChange x = Due.made("b09c;d09c", "hCH");
        Due.is("11 bag(-1, 0)", x.bag(-1, 0), BAD);
        Due.is("11 bag(10, 0)", x.bag(10, 0), BAD);
        Due.is("11 bag(0, -2)", x.bag(0, -2), BAD);
        Due.is("11 bag(0, 28)", x.bag(0, 28), BAD);
        Due.row("11 the one's, then the other one's", Due.bagOf(x, 0), 7, 15, 1, 3);
        Due.is("11 behind its end", x.bag(0, 4), NONE);
        Due.is("11 bag(9, 27)", x.bag(9, 27), NONE);
        x = Due.made("b09c", "accC");
        Due.row("11 the first whole one", Due.bagOf(x, 0), 0, 2, 10, 1);
        x = Due.made("b06c;d07c;e06f", "C");
        x.set(2, 7);
        Due.row("11 whole, though it was torn; by stops", Due.bagOf(x, 0), 1, 3, 2, 4, 2);
        x = Due.made("b09c;c09d", "d");
        Due.row("11 day 0", Due.bagOf(x, 0), 2);
        Due.row("11 day 1", Due.bagOf(x, 1), 1);
        Due.row("11 day 9", Due.bagOf(x, 9), 1);
        x = Due.made("b09c;b09c;d09e;d09e;e09f;e09f;f09g;f09g", "CEFGAAAAAAAAAAAA");
        x.set(2, 255);
        Due.is("11 28 at most", x.bag(0, NONE), 28);
        Due.is("11 the last of 28", x.bag(0, 27), 6);
    }

    private static void gets() {
        AfternoonChange x = Due.made("b09c;c09d;e09e;a09b;f09f", "d");
        x.set(2, 16);
        Due.row("12 gets", new int[] {x.gets(0), x.gets(1), x.gets(2), x.gets(3), x.gets(4)}, 1, 0, 0, NONE, NONE);
        x = Due.made(SLOW, "a");
        for (int r = 0; r < 8; r++) {
            Due.is("12 gets(" + r + ") of many days", x.gets(r), 7 - r);
        }
        Due.is("12 gets(8)", x.gets(8), BAD);
        Due.is("12 gets(-1)", x.gets(-1), BAD);
    }

    private static void first() {
        AfternoonChange x = Due.made("b59c;c09d", "d");
        Due.is("13 first(-1)", x.first(-1), BAD);
        Due.is("13 first(3)", x.first(3), BAD);
        x.set(1, 8 + 16 + 32);
        Due.row("13 first", new int[] {x.first(0), x.first(1), x.first(2)}, 0, 3, 1);
        x.set(1, 0);
        Due.row("13 none", new int[] {x.first(0), x.first(1), x.first(2)}, NONE, NONE, NONE);
        x = Due.made("b69c;d79c", "C");
        x.set(1, 64 + 128);
        Due.row("13 by whose turn", new int[] {x.first(0), x.first(1), x.first(2)}, 0, 7, 0);
        x = Due.made("b02c;c89a", "");
        x.set(1, 2);
        x.set(2, 2);
        Due.row("13 on day 1", new int[] {x.first(0), x.first(1), x.first(2)}, 1, 1, 0);
    }

    private static void still() {
        Due.is("14 nothing at all", new AfternoonChange().still(), 0);
        Due.is("14 one day of changes", Due.made("b09c", "c").still(), 1);
        Due.is("14 two days of changes", Due.made("b09c;c09d", "d").still(), 2);
        AfternoonChange x = Due.made("b02c;c89a", "");
        x.set(1, 2);
        x.set(2, 2);
        Due.is("14 left on a seat is not changed", x.still(), 0);
        Due.is("14 a day behind it is", x.first(0), 1);
        Due.is("14 a change a day", Due.made(SLOW, "a").still(), 8);
    }

    private static void served() {
        AfternoonChange x = Due.made("b09c;c09d;e09e;a09b", "d");
        Due.is("15 served(-1)", x.served(-1), BAD);
        Due.is("15 served(10)", x.served(10), BAD);
        Due.is("15 served(0)", x.served(0), 6);
        Due.is("15 served(1)", x.served(1), 7);
        Due.is("15 served(9)", x.served(9), 7);
        x.set(2, 4);
        Due.is("15 one left his", x.served(0), 2);
        x = Due.made(SLOW, "a");
        for (int day = 0; day < 10; day++) {
            Due.is("15 served(" + day + ") of many days", x.served(day), 255 - (255 >> Math.min(day, 7) + 1));
        }
    }

    private static void rings() {
        AfternoonChange x = Due.made("b09c;c09d;d09b", "");
        Due.is("16 rings(-1)", x.rings(-1), BAD);
        Due.is("16 rings(2)", x.rings(2), BAD);
        Due.is("16 one", x.rings(0), 1);
        Due.is("16 the least", x.rings(1), 8 + 2);
        x = Due.made("b00d;c00b;d00c", "");
        Due.is("16 the other way round", x.rings(0), 1);
        Due.is("16 the other way round, the least", x.rings(1), 8 + 2);
        x = Due.made("h09h;b09c;c09d;d09b;b09c", "");
        Due.is("16 two", x.rings(0), 2);
        Due.is("16 the least of two", x.rings(1), 64 + 16 + 3);
        x = Due.made("b09b;b09b;b09b", "");
        Due.is("16 none what it has itself", x.rings(0), 0);
        Due.is("16 none", x.rings(1), NONE);
        Due.is("16 two are no three", Due.made("b09c;c09b", "").rings(0), 0);
        // at first: the bag and the days don't matter
        x = Due.made("b09c;c09d;d09b", "bcd");
        Due.is("16 served all", x.served(0), 7);
        Due.is("16 at first", x.rings(0), 1);
        Due.is("16 with a Monday, not even", Due.made("a09h;h09d;d09a", "").rings(0), 1);
    }

    private static void open() {
        AfternoonChange x = Due.made(CHAIN + ";g09g;a09b", "f");
        Due.is("17 open(-1, 0)", x.open(-1, 0), BAD);
        Due.is("17 open(6, 0)", x.open(6, 0), BAD);
        Due.is("17 open(0, -1)", x.open(0, -1), BAD);
        Due.is("17 open(0, 2)", x.open(0, 2), BAD);
        Due.is("17 one", x.open(3, 0), 1);
        Due.is("17 one, bits", x.open(3, 1), 256);
        Due.is("17 two", x.open(2, 0), 2);
        Due.is("17 two, bits", x.open(2, 1), 8 + 256);
        Due.is("17 three", x.open(1, 0), 3);
        Due.is("17 three, the least bits", x.open(1, 1), 8 + 32 + 256);
        Due.is("17 four are too many", x.open(0, 0), NONE);
        Due.is("17 four, bits", x.open(0, 1), NONE);
        Due.is("17 none is wanted", x.open(4, 0), 0);
        Due.is("17 none, bits", x.open(4, 1), 0);
        Due.is("17 never", x.open(5, 0), NONE);
        x.set(1, 0);
        Due.is("17 in place of those told", x.open(3, 0), 1);
        x = Due.made("c79d;b49d", "d");
        Due.is("17 one more is worse", x.open(0, 1), 128);
        x.set(2, 1);
        Due.is("17 behind day 9, left", x.open(0, 0), NONE);
        x.set(2, 0);
        x.worth(2, 9);
        Due.is("17 by the money", x.open(0, 0), NONE);
    }

    private static void least() {
        AfternoonChange x = Due.made("b09e", "e");
        Due.is("18 least(-1)", x.least(-1), BAD);
        Due.is("18 least(2)", x.least(2), BAD);
        Due.is("18 which", x.least(0), 3);
        Due.is("18 how many", x.least(1), 1);
        x.set(0, 9);
        Due.is("18 in place of its own", x.least(0), 3);
        x.wipe(1);
        Due.is("18 by none the least", x.least(0), 0);
        Due.is("18 none", x.least(1), 0);
        x = Due.made("b09c;h09a", "ca");
        Due.is("18 seven", x.least(0), 7);
        Due.is("18 two", x.least(1), 2);
        x.worth(7, 9);
        Due.is("18 eight", x.least(0), 8);
        x.worth(0, 0);
        Due.is("18 nine", x.least(0), 9);
        // by more the first one takes what the second would have, and the third's stays away
        x = Due.made("b09e;d09e;f09d", "e");
        Due.is("18 the less even the worse", x.least(0), 2);
        Due.is("18 the less even the worse, how many", x.least(1), 2);
    }

    private static void top() {
        AfternoonChange x = Due.made("b09d;c09d", "");
        Due.is("19 top(-1)", x.top(-1), BAD);
        Due.is("19 top(2)", x.top(2), BAD);
        Due.is("19 which", x.top(0), 3);
        Due.is("19 how many", x.top(1), 1);
        Due.type(x, 1, "aaaaaaaaaaaaaaaa");
        Due.is("19 whatever room", x.top(0), 3);
        x = Due.made("b09c;c09d;e09f", "d");
        Due.is("19 with the bag told", x.top(0), 5);
        Due.is("19 with the bag told, how many", x.top(1), 3);
        x = Due.made("g09h;b09c", "");
        Due.is("19 the least of like ones", x.top(0), 2);
        x = Due.made("b09h;c09c", "");
        Due.is("19 none helps", x.top(0), 0);
        Due.is("19 none helps, how many", x.top(1), 1);
        x.set(0, 9);
        Due.is("19 the last one", x.top(0), 7);
    }

    private static void seen() {
        AfternoonChange x = new AfternoonChange();
        Due.is("20 day -1", x.seen(-1, 0, 0), BAD);
        Due.is("20 day 10", x.seen(10, 0, 0), BAD);
        Due.is("20 rider -1", x.seen(0, -1, 0), BAD);
        Due.is("20 rider 8", x.seen(0, 8, 0), BAD);
        Due.is("20 afternoon -1", x.seen(0, 0, -1), BAD);
        Due.is("20 afternoon 9", x.seen(0, 0, 9), BAD);
        for (int n = 1; n <= 8; n++) {
            Due.is("20 seen", x.seen(9, 7, 8), n);
        }
        Due.is("20 a ninth", x.seen(0, 0, 0), FULL);
        Due.is("20 a bad ninth", x.seen(0, 0, 9), BAD);
        Due.is("20 how many", x.count(7), 8);
    }

    private static void forget() {
        AfternoonChange x = Due.made("b09c", "c");
        Due.is("21 none", x.forget(), 0);
        x.seen(0, 0, 7);
        x.seen(0, 0, 7);
        Due.is("21 was with it", x.was(), 0);
        Due.is("21 two", x.forget(), 2);
        Due.is("21 how many", x.count(7), 0);
        Due.is("21 was without", x.was(), 1023);
        Due.is("21 seen anew", x.seen(0, 0, 2), 1);
    }

    private static AfternoonChange withSheet(int form, int... items) {
        AfternoonChange x = Due.made("b09e;c09c", "e");
        x.sheet(2, form, items.length);
        for (int i = 0; i < items.length; i++) {
            x.lay(2, form, i, items[i]);
        }
        return x;
    }

    private static void read() {
        AfternoonChange x = withSheet(0, 0, 0, 4, 9, 1, 2, 0, 0);
        Due.is("22 read(-1)", x.read(-1), BAD);
        Due.is("22 read(4)", x.read(4), BAD);
        Due.is("22 a lost one", x.read(3), NULL);
        Due.is("22 the finding", x.count(8), 1);
        Due.is("22 whole ones", x.read(2), 2);
        Due.is("22 how many", x.count(7), 2);
        Due.is("22 what was seen", x.was(), 1023 - 7);
        Due.is("22 as many more", x.read(2), 2);
        Due.is("22 how many then", x.count(7), 4);
        Due.is("22 as long as each may be", withSheet(1, 0, 0, 9, 0, 0, 4).read(2), 0);
        Due.is("22 not a day", withSheet(2, 0, 0, 4, 10, 0, 4, 0, 0, 4).read(2), 1);
        Due.is("22 not a rider", withSheet(2, 0, 0, 4, 0, 7, 4, 0, 8, 4).read(2), 2);
        Due.is("22 below 0", withSheet(0, 0, 0, 255).read(2), 0);
        Due.is("22 none", withSheet(2).read(2), 0);
        Due.is("22 not whole", withSheet(2, 0, 0).read(2), 0);
        x = withSheet(2, new int[60]);
        Due.is("22 no more than 8", x.read(2), 8);
        Due.is("22 no more", x.read(2), 0);
        Due.is("22 eight", x.count(7), 8);
    }

    private static void had() {
        AfternoonChange x = Due.made("b09c;d09f", "c");
        Due.is("23 had(-1)", x.had(-1), BAD);
        Due.is("23 had(2)", x.had(2), BAD);
        Due.is("23 nothing seen", x.had(0), 255);
        x.seen(0, 0, 2);
        // b, d, e by the money, and c itself
        Due.is("23 his own", x.had(0), 2 + 4 + 8 + 16);
        // whatever the second one had, the first gets c
        Due.is("23 another one's", x.had(1), 255);
        x.seen(9, 0, 2);
        x.seen(9, 1, 3);
        Due.is("23 all that was seen", x.had(0), 2 + 4 + 8 + 16);
        Due.is("23 the second's own", x.had(1), 8);
        x.seen(9, 2, 0);
        Due.is("23 one that there is not", x.had(0), 0);
        x.forget();
        x.seen(9, 0, 8);
        Due.is("23 none", x.had(0), 0);
        x.set(2, 1);
        Due.is("23 none, left", x.had(0), 255);
    }

    private static void was() {
        AfternoonChange x = Due.made("b09e", "e");
        Due.is("24 nothing seen", x.was(), 1023);
        x.seen(0, 0, 4);
        Due.is("24 from 3 on", x.was(), 1023 - 7);
        x.set(0, 9);
        Due.is("24 in place of its own", x.was(), 1023 - 7);
        x.seen(9, 0, 1);
        Due.is("24 both", x.was(), 0);
        x.forget();
        x.seen(9, 0, 1);
        Due.is("24 up to 2", x.was(), 7);
        x.forget();
        x.seen(0, 1, 8);
        Due.is("24 one that there is not", x.was(), 0);
        x.forget();
        x.seen(0, 0, 8);
        Due.is("24 none", x.was(), 0);
        x.set(2, 1);
        Due.is("24 none, left", x.was(), 1023);
    }

    private static void ask() {
        AfternoonChange x = Due.made("b09e;e09g", "g");
        Due.is("25 ask(-1)", x.ask(-1), BAD);
        Due.is("25 ask(10)", x.ask(10), BAD);
        // behind day 0: 10 alike, or 2 and 8; behind day 1: 3 and 7, or 2 and 8
        Due.is("25 ask(0)", x.ask(0), 1);
        Due.is("25 ask(1)", x.ask(1), 0);
        x.seen(0, 1, 4);
        Due.is("25 of like ones the least", x.ask(0), 0);
        x.seen(0, 1, 5);
        Due.is("25 by no EVEN", x.ask(0), 0);
        x = Due.made("b09e;c09g", "eg");
        Due.is("25 4 and 6", x.ask(9), 1);
        x.seen(0, 1, 2);
        Due.is("25 of those by which it was so", x.ask(9), 0);
        x.seen(0, 1, 3);
        Due.is("25 by none, the least", x.ask(9), 0);
        Due.is("25 no riders", new AfternoonChange().ask(0), NONE);
        x = Due.made("b02c;b09e", "e");
        x.set(2, 1);
        Due.is("25 none, too", x.ask(0), 1);
    }

    private static void maybe() {
        AfternoonChange x = Due.made("b09c;e09e;a09b", "c");
        long bad = Long.MIN_VALUE + 2;
        int[][] wrong = {{-1, 0, 0, 0}, {17, 0, 0, 0}, {0, -1, 0, 0}, {0, 10, 0, 0},
            {0, 0, -1, 0}, {0, 0, 3, 0}, {0, 0, 0, -1}, {0, 0, 0, 2}};
        for (int[] w : wrong) {
            Due.is("26 bad", x.maybe(w[0], w[1], w[2], w[3]), bad);
        }
        fraction(x, 4, 0, 0, 1, 4);
        fraction(x, 16, 0, 0, 1, 1);
        fraction(x, 0, 0, 0, 0, 1);
        fraction(x, 7, 9, 1, 1, 1);
        fraction(x, 7, 9, 2, 0, 1);
        x.set(1, 1 + 32);
        fraction(x, 8, 0, 0, 3, 4);
        fraction(x, 5, 0, 0, 135, 256);
        x.set(1, 1023);
        fraction(x, 1, 9, 0, 30276117361L, 68719476736L);
        x.set(1, 0);
        fraction(x, 9, 9, 0, 0, 1);
        fraction(x, 9, 9, 1, 1, 1);
        x = Due.made("b02c;c59d", "d");
        x.set(1, 1 + 32);
        fraction(x, 8, 0, 0, 0, 1);
        fraction(x, 8, 1, 0, 1, 4);
        fraction(x, 8, 8, 0, 1, 4);
        fraction(x, 8, 9, 0, 1, 4);
        fraction(x, 3, 0, 1, 3, 16);
        x.set(0, 0);
        fraction(x, 3, 9, 1, 0, 1);
        x = Due.made("c09c", "");
        x.set(2, 1);
        fraction(x, 16, 9, 0, 0, 1);
        x = Due.made(SLOW, "a");
        for (int day = 0; day < 10; day++) {
            for (int r = 0; r < 8; r++) {
                boolean gets = day >= 7 - r;
                fraction(x, 6, day, r, gets ? 3 : 0, gets ? 8 : 1);
            }
        }
    }

    private static void fraction(AfternoonChange x, int c, int day, int rider, long above, long below) {
        String call = "26 maybe(" + c + ", " + day + ", " + rider + ")";
        Due.is(call + " above", x.maybe(c, day, rider, 0), above);
        Due.is(call + " below", x.maybe(c, day, rider, 1), below);
    }

    private static void depot() {
        AfternoonChange x = Due.made("b09c;d09c;e09f;g09h", "cfh");
        Due.is("27 depot(0, -1, 0)", x.depot(0, -1, 0), BAD);
        Due.is("27 depot(0, 17, 0)", x.depot(0, 17, 0), BAD);
        Due.is("27 depot(0, 1, -1)", x.depot(0, 1, -1), BAD);
        Due.is("27 depot(0, 1, 2)", x.depot(0, 1, 2), BAD);
        Due.is("27 none", x.depot(5, 0, 0), 0);
        Due.is("27 none in it", x.depot(5, 0, 1), 0);
        int[] seeds = {0, 1, 7, -1, Integer.MIN_VALUE, 123456789};
        for (int seed : seeds) {
            Due.is("27 depot(" + seed + ", 16, 0)", x.depot(seed, 16, 0), servedByDepot(seed, 16));
            Due.is("27 depot(" + seed + ", 5, 0)", x.depot(seed, 5, 0), servedByDepot(seed, 5));
            Due.is("27 depot(" + seed + ", 16, 1)", x.depot(seed, 16, 1), 16);
        }
        Due.is("27 the bag told stays", x.served(9), 13);
        x.set(2, 15);
        Due.is("27 all left", x.depot(7, 9, 0), 0);
        Due.is("27 all left, in it", x.depot(7, 9, 1), 13);
    }

    /** The same four riders: c serves one each, two at most; f and h one each. */
    private static int servedByDepot(int seed, int n) {
        int[] lots = new int[8];
        long s = seed;
        for (int i = 0; i < n; i++) {
            s = (s * 1103515245L + 12345L) & 0xFFFFFFFFL;
            lots[(int) (s / 65536 % 8)]++;
        }
        return Math.min(lots[2], 2) + Math.min(lots[5], 1) + Math.min(lots[7], 1);
    }

    private static void sheet() {
        AfternoonChange x = new AfternoonChange();
        Due.is("28 sheet(-1, 0, 1)", x.sheet(-1, 0, 1), BAD);
        Due.is("28 sheet(4, 0, 1)", x.sheet(4, 0, 1), BAD);
        Due.is("28 sheet(0, -1, 1)", x.sheet(0, -1, 1), BAD);
        Due.is("28 sheet(0, 3, 1)", x.sheet(0, 3, 1), BAD);
        Due.is("28 above 60", x.sheet(0, 0, 61), BAD);
        Due.is("28 bad ahead of the size", x.sheet(4, 0, -1), BAD);
        Due.is("28 no finding yet", x.count(8), 0);
        Due.is("28 below 0", x.sheet(0, 0, -1), SIZE);
        Due.is("28 finding", x.count(8), 5);
        Due.is("28 still lost", x.lose(0), NULL);
        for (int form = 0; form < 3; form++) {
            Due.is("28 60", x.sheet(form, form, 60), 60);
            Due.is("28 the last item", x.get(form, form, 59), 0);
        }
        Due.is("28 0", x.sheet(3, 0, 0), 0);
        x.lay(1, 1, 0, 7);
        Due.is("28 the lowest int", x.sheet(1, 1, Integer.MIN_VALUE), SIZE);
        Due.is("28 unchanged", x.get(1, 1, 0), 7);
        Due.is("28 anew", x.sheet(1, 1, 2), 2);
        Due.is("28 0 at first", x.get(1, 1, 0), 0);
        Due.is("28 of another form", x.sheet(1, 2, 3), 3);
        Due.is("28 its form", x.lay(1, 2, 2, 5), 1);
    }

    private static void lose() {
        AfternoonChange x = new AfternoonChange();
        x.sheet(1, 0, 12);
        x.sheet(2, 0, 0);
        Due.is("29 lose(-1)", x.lose(-1), BAD);
        Due.is("29 lose(4)", x.lose(4), BAD);
        Due.is("29 lose(1)", x.lose(1), 12);
        Due.is("29 lose(2)", x.lose(2), 0);
        Due.is("29 no finding", x.count(8), 0);
        Due.is("29 again", x.lose(1), NULL);
        Due.is("29 finding", x.count(8), 1);
        Due.is("29 anew", x.sheet(1, 0, 1), 1);
    }

    private static void lay() {
        AfternoonChange x = new AfternoonChange();
        x.sheet(0, 0, 2);
        x.sheet(1, 1, 2);
        x.sheet(2, 2, 2);
        Due.is("30 lay(-1, ..)", x.lay(-1, 0, 0, 0), BAD);
        Due.is("30 lay(4, ..)", x.lay(4, 0, 0, 0), BAD);
        Due.is("30 form -1", x.lay(0, -1, 0, 0), BAD);
        Due.is("30 form 3 of a lost one", x.lay(3, 3, 0, 0), BAD);
        Due.is("30 lost", x.lay(3, 0, 0, 0), NULL);
        Due.is("30 cast ahead of index", x.lay(0, 1, 9, 0), CAST);
        Due.is("30 finding", x.count(8), 3);
        Due.is("30 index", x.lay(0, 0, 2, 0), INDEX);
        Due.is("30 below 0", x.lay(0, 0, -1, 0), INDEX);
        Due.is("30 the lowest int", x.lay(0, 0, Integer.MIN_VALUE, 0), INDEX);
        int[] values = {127, 128, 255, 256, -129, 32768, 65536 + 5, Integer.MIN_VALUE, Integer.MAX_VALUE};
        for (int v : values) {
            for (int form = 0; form < 3; form++) {
                Due.is("30 lay " + v, x.lay(form, form, 1, v), 1);
            }
            Due.is("30 as a byte " + v, x.get(0, 0, 1), (byte) v);
            Due.is("30 as a short " + v, x.get(1, 1, 1), (short) v);
            Due.is("30 as an int " + v, x.get(2, 2, 1), v);
        }
        Due.is("30 its neighbour", x.get(2, 2, 0), 0);
    }

    private static void get() {
        AfternoonChange x = new AfternoonChange();
        x.sheet(0, 1, 3);
        x.lay(0, 1, 2, -5);
        Due.is("31 get(0, 1, 2)", x.get(0, 1, 2), -5);
        Due.is("31 get(-1, ..)", x.get(-1, 1, 2), LEAST);
        Due.is("31 get(4, ..)", x.get(4, 1, 2), LEAST);
        Due.is("31 form -1", x.get(0, -1, 2), LEAST);
        Due.is("31 form 3", x.get(0, 3, 2), LEAST);
        Due.is("31 bad is no finding", x.count(8), 0);
        Due.is("31 lost", x.get(1, 1, 0), LEAST);
        Due.is("31 null", x.count(8), 1);
        Due.is("31 index", x.get(0, 1, 3), LEAST);
        Due.is("31 index told", x.count(8), 2);
        Due.is("31 cast", x.get(0, 2, 3), LEAST);
        Due.is("31 cast told", x.count(8), 3);
        Due.is("31 below 0", x.get(0, 1, -1), LEAST);
        Due.is("31 below 0 told", x.count(8), 2);
    }

    private static void copy() {
        AfternoonChange x = new AfternoonChange();
        x.sheet(0, 2, 5);
        x.sheet(1, 2, 3);
        x.sheet(2, 1, 3);
        for (int i = 0; i < 5; i++) {
            x.lay(0, 2, i, 10 + i);
        }
        Due.is("32 s -1", x.copy(-1, 0, 1, 0, 1), BAD);
        Due.is("32 s 4", x.copy(4, 0, 1, 0, 1), BAD);
        Due.is("32 t -1", x.copy(0, 0, -1, 0, 1), BAD);
        Due.is("32 t 4, s lost", x.copy(3, 0, 4, 0, 1), BAD);
        Due.is("32 s lost", x.copy(3, 0, 0, 0, 1), NULL);
        Due.is("32 t lost", x.copy(0, 9, 3, 0, 1), NULL);
        Due.is("32 store ahead of index", x.copy(0, 9, 2, 0, 1), STORE);
        Due.is("32 finding", x.count(8), 4);
        int[][] wrong = {{-1, 0, 1}, {0, -1, 1}, {0, 0, -1}, {4, 0, 2}, {0, 2, 2}, {0, 0, 4}, {6, 0, 0}, {0, 4, 0},
            {Integer.MAX_VALUE, 0, Integer.MAX_VALUE}, {1, 1, Integer.MAX_VALUE}, {0, Integer.MIN_VALUE, 0}};
        for (int[] w : wrong) {
            Due.is("32 copy(0, " + w[0] + ", 1, " + w[1] + ", " + w[2] + ")", x.copy(0, w[0], 1, w[1], w[2]), INDEX);
        }
        Due.row("32 unchanged", Due.itemsOf(x, 1, 2, 3), 0, 0, 0);
        Due.is("32 none, at the ends", x.copy(0, 5, 1, 3, 0), 1);
        Due.is("32 two", x.copy(0, 3, 1, 1, 2), 1);
        Due.row("32 two are there", Due.itemsOf(x, 1, 2, 3), 0, 13, 14);
        Due.is("32 onto itself, up", x.copy(0, 0, 0, 1, 4), 1);
        Due.row("32 as they were", Due.itemsOf(x, 0, 2, 5), 10, 10, 11, 12, 13);
        Due.is("32 onto itself, down", x.copy(0, 2, 0, 0, 3), 1);
        Due.row("32 as they were, down", Due.itemsOf(x, 0, 2, 5), 11, 12, 13, 12, 13);
    }

    private static void write() {
        AfternoonChange x = Due.made("b09c;c09d", "dH");
        x.sheet(0, 0, 4);
        x.sheet(1, 2, 1);
        for (int i = 0; i < 4; i++) {
            x.lay(0, 0, i, 99);
        }
        Due.is("33 day -1", x.write(-1, 0), BAD);
        Due.is("33 day 10", x.write(10, 0), BAD);
        Due.is("33 s -1", x.write(0, -1), BAD);
        Due.is("33 s 4", x.write(0, 4), BAD);
        Due.is("33 bad ahead of null", x.write(10, 3), BAD);
        Due.is("33 lost", x.write(0, 3), NULL);
        Due.is("33 finding", x.count(8), 1);
        Due.is("33 day 0", x.write(0, 0), 2);
        Due.row("33 behind day 0", Due.itemsOf(x, 0, 0, 4), 15, 2, 99, 99);
        Due.is("33 day 1", x.write(1, 0), 2);
        Due.row("33 behind day 1", Due.itemsOf(x, 0, 0, 4), 15, 1, 99, 99);
        Due.is("33 as many as there are items", x.write(9, 1), 1);
        Due.row("33 one", Due.itemsOf(x, 1, 2, 1), 15);
        x.sheet(1, 1, 0);
        Due.is("33 no items", x.write(9, 1), 0);
        x.wipe(1);
        Due.is("33 none in it", x.write(0, 0), 0);
    }

    private static void count() {
        AfternoonChange x = Due.made("b09c;d09c;e09f", "Cf");
        x.seen(0, 0, 2);
        x.lose(0);
        int[] due = {3, 2, 14, 2, 2, 3, 32, 1, 1};
        for (int what = 0; what < 9; what++) {
            Due.is("34 count(" + what + ")", x.count(what), due[what]);
        }
        Due.is("34 count(-1)", x.count(-1), BAD);
        Due.is("34 count(9)", x.count(9), BAD);
        x.type(0, ';');
        x.type(1, 'i');
        Due.is("34 riders with a fault", x.count(0), 0);
        Due.is("34 bag with a fault", x.count(1), 0);
        Due.is("34 bytes 0", x.count(2), 15);
        Due.is("34 bytes 1", x.count(3), 3);
        x.sheet(0, 0, -1);
        x.sheet(0, 0, 1);
        Due.is("34 the latest finding stays", x.count(8), 5);
    }

    private static long digestOf(long... each) {
        long h = 17;
        for (long e : each) {
            h = 31 * h + e;
        }
        return h;
    }

    private static void digest() {
        AfternoonChange x = new AfternoonChange();
        Due.is("35 of none", x.digest(), digestOf(0, 0, 0, 0, 0, 0, 32, 0, -1, -1,
            0, 0, -1, -1, 0, 0, -1, -1, 0, 0, -1, -1, -1, -1, -1, 0, 0, -1, 0, 0, 0, 0, 1023, 0, 9));
        x.lose(0);
        Due.is("35 without findings", x.digest(), new AfternoonChange().digest());
        x = Due.made("b09c", "c");
        x.seen(0, 0, 2);
        long depot = x.depot(7, 9, 0);
        Due.is("35 of one", x.digest(), digestOf(1, 1, 4, 1, 1, 1, 32, 1, -1, -1,
            1, 0, 9, 2, 2, 2, 0, 0, 1, 1, 30, 5, 16,
            1, 1, 1, 0, 1, 1, 1, 0, 1, 1, 1, 0, 0, 5, 0, 1, 0, -1, 1, 1, 0, 1, 1022, depot, 9));
    }
}
