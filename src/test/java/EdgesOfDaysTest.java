/** The edges that the document names for days, stops and changes (promises 9 to 16): a test for each sentence. */
public final class EdgesOfDaysTest {
    private static final int NONE = -1, BAD = -2;
    private static final int[] FAR = {Integer.MIN_VALUE, Integer.MAX_VALUE};
    /** One changes on each of days 0 to 7, the last one first, with the bag a. */
    private static final String SLOW = "g09h;h09g;g09f;f09e;e09d;d09c;c09b;b09a";

    public static void main(String[] args) {
        stopsAndDays();
        leaveByNumbers();
        leavesOnTheSeat();
        wholeThoughTorn();
        board();
        byNumbers();
        hasOne();
        noMonday();
        notWhatItWants();
        asEvenAsThat();
        firstWholeOne();
        anotherOne();
        firstTornOne();
        nextDay();
        behindADay();
        tornByDays();
        bagBehindADay();
        getsFirstDay();
        firstChange();
        still();
        servedAsBits();
        rings();
        has();
        torn();
        bag();
        gets();
        first();
        served();
        ringsWhat();
        Due.end("EdgesOfDaysTest");
    }

    private static void stopsAndDays() {
        Due.sentence("On each of DAYS 0 to 9 the tram goes from STOP 0 to 9.");
        Due.is("at stop 0", Due.made("b09c", "c", 2, 1, 0).first(1), 0);
        Due.is("at stop 8", Due.made("b89c", "c", 2, 256, 0).first(1), 8);
        Due.is("all have left at stop 9", Due.made("b09c;b89c;b99c;b90c", "cccc", 2, 512, 0).count(4), 0);
        AfternoonChange x = Due.made("c09b", "", 2, 32, 1);
        Due.is("it is left at stop 9", x.has(0, 0), NONE);
        x = Due.made(SLOW, "a");
        for (int day = 0; day < 10; day++) {
            Due.is("served behind " + day, Integer.bitCount(x.served(day)), Math.min(day + 1, 8));
        }
        x = Due.made("c45b;b56c", "", 2, 32, 1);
        Due.is("left at stop 5 ahead of who boards there", x.has(0, 1), 2);
        x = Due.made("c56b;b45c", "", 2, 16, 1);
        Due.is("left at stop 6, behind stop 4", x.has(0, 1), 1);
        Due.is("the day behind it", x.has(1, 1), 2);
    }

    private static void leaveByNumbers() {
        Due.sentence("At a STOP first those on board who leave there leave, by numbers");
        Due.row("three at a stop", Due.bagOf(Due.made("c25a;d15a;b05a", "", 2, 0, 7), 0), 2, 3, 1);
        Due.row("by stops first", Due.bagOf(Due.made("c26a;d15a;b04a", "", 2, 0, 7), 0), 1, 3, 2);
        AfternoonChange x = Due.made("b09c;d05a", "c", 2, 32, 2);
        Due.row("ahead of the changes there", Due.bagOf(x, 0), 3, 1);
        Due.is("who leaves there does not change", Due.made("b05c", "c").has(9, 0), 1);
        Due.is("nor is he another one", Due.made("b09c;d05c", "C").count(4), 0);
        Due.is("who leaves behind it does", Due.made("b06c", "c").has(9, 0), 2);
    }

    private static void leavesOnTheSeat() {
        Due.sentence("one that FORGETS puts what it HAS, if any");
        AfternoonChange x = Due.made("h05b", "b", 2, 0, 1);
        for (int day = 0; day < 10; day++) {
            Due.row("once alone, day " + day, Due.bagOf(x, day), 1, 7);
            Due.is("none then, day " + day, x.has(day, 0), NONE);
        }
        x = Due.made("a09b", "", 2, 32, 1);
        Due.row("a Monday too", Due.bagOf(x, 0), 0);
        x = Due.made("c09c", "", 2, 32, 1);
        Due.row("what it wants too", Due.bagOf(x, 0), 2);
        Due.is("nobody got it", x.served(9), 0);
        x = Due.made("b09c", "c", 2, 32, 1);
        Due.row("what it changed for", Due.bagOf(x, 0), 1, 2);
        x = Due.made("c55b;c65b", "", 2, 32, 3);
        Due.is("who was not on board leaves nothing", x.bag(9, NONE), 0);
        Due.is("and has it", x.has(9, 1), 2);
        x = Due.made("b09c", "c", 2, 32, 254);
        Due.is("one that there is not", x.bag(9, NONE), 1);
        Due.is("the one that there is", x.has(9, 0), 2);
    }

    private static void wholeThoughTorn() {
        Due.sentence("(whole, though it was torn), at the bottom of THE BAG, and HAS none then.");
        AfternoonChange x = Due.made("b09c;d07c", "Ch", 2, 32, 2);
        Due.row("a whole c at the bottom", Due.bagOf(x, 0), 7, 1, 3, 2);
        Due.is("none", x.has(0, 1), NONE);
        Due.is("the other one has his", x.has(9, 0), 2);
        x = Due.made("b09c;d07c;b89c", "Ch", 2, 32 + 256, 2);
        Due.is("another one takes it whole", x.has(0, 2), 2);
        Due.is("it is not torn there", x.torn(0, 2), 0);
        x = Due.made("b09c;d09c", "C", 2, 32, 3);
        Due.row("both leave it: two whole ones", Due.bagOf(x, 0), 1, 3, 2, 2);
    }

    private static void board() {
        Due.sentence("Then those who board there board (none whose STOP to leave is not behind it).");
        Due.is("boards there", Due.made("b56c", "c").has(0, 0), 2);
        Due.is("leaves where it boards", Due.made("b55c", "c").has(9, 0), 1);
        Due.is("leaves one ahead of it", Due.made("b54c", "c").has(9, 0), 1);
        Due.is("on board neither from 9 on nor up to 9", Due.made("b90c", "c", 2, 1023, 0).has(9, 0), 1);
        Due.is("boards one behind it", Due.made("b69c", "c").has(9, 0), 1);
        Due.is("from 0 to 0", Due.made("b00c", "c", 2, 1023, 0).has(9, 0), 1);
        Due.is("from 9 to 9", Due.made("b99c", "c", 2, 1023, 0).has(9, 0), 1);
        for (int board = 0; board < 10; board++) {
            for (int leave = 0; leave < 10; leave++) {
                AfternoonChange x = Due.made("b" + board + leave + "c", "c");
                for (int stop = 0; stop < 10; stop++) {
                    x.set(1, 1 << stop);
                    Due.is(board + " to " + leave + " at " + stop, x.count(4), board <= stop && stop < leave ? 1 : 0);
                }
            }
        }
    }

    private static void byNumbers() {
        Due.sentence("Then, if one CHANGES there, each on board, by numbers");
        Due.row("the lesser one takes the one", Due.hadBy(Due.made("d09c;b09c", "c"), 9, 2), 2, 1);
        Due.row("who boarded first does not matter", Due.hadBy(Due.made("d59c;b09c", "c"), 9, 2), 2, 1);
        Due.row("the greater one finds what the lesser put", Due.hadBy(Due.made("c09d;b09c", "d"), 0, 2), 3, 2);
        Due.row("not the other way", Due.hadBy(Due.made("b09c;c09d", "d"), 0, 2), 1, 3);
        Due.is("no stop, no change", Due.made("b09c", "c", 2, 0, 0).count(4), 0);
        Due.row("an earlier stop goes ahead of numbers", Due.hadBy(Due.made("d59c;b02c", "c", 2, 33, 0), 9, 2), 3, 2);
    }

    private static void hasOne() {
        Due.sentence("that HAS one");
        AfternoonChange x = Due.made("b07c;c68h", "", 2, 32, 3);
        Due.row("both are left", Due.bagOf(x, 9), 1, 2);
        Due.is("who has none takes none", x.has(9, 0), NONE);
        Due.is("no change", x.count(4), 0);
        x = Due.made("b02c;d07c;c68h", "C", 2, 32, 5);
        Due.is("who has none is not another one", x.torn(9, 1), 0);
    }

    private static void noMonday() {
        Due.sentence("no MONDAY");
        AfternoonChange x = Due.made("a09b", "b", 9, 1023, 0);
        Due.is("a Monday stays", x.has(9, 0), 0);
        x.worth(0, 2);
        Due.is("as even as can be", x.has(9, 0), 0);
        Due.is("one may want a Monday", Due.made("b09a", "a").has(9, 0), 0);
        Due.is("two may want a Monday", Due.made("b09a;c09a", "A").has(9, 1), 0);
        Due.is("with a Monday one is not another one", Due.made("b09c;a09c", "C").count(4), 0);
        Due.is("nor the one", Due.made("a09c;b09c", "C").count(4), 0);
    }

    private static void notWhatItWants() {
        Due.sentence("and not what it WANTS");
        AfternoonChange x = Due.made("c09c", "cC");
        Due.is("no change", x.count(4), 0);
        Due.row("the bag", Due.bagOf(x, 9), 2, 10);
        Due.is("not another one", Due.made("b09c;c09c", "C").count(4), 0);
        Due.is("nor the one", Due.made("c09c;b09c", "C").count(4), 0);
        Due.is("once served, no other", Due.made("b09c", "ccc", 2, 1023, 0).count(4), 1);
    }

    private static void asEvenAsThat() {
        Due.sentence("of which the WORTH differs from that of what it WANTS by no more than EVEN (it MAY)");
        for (int even = 0; even < 10; even++) {
            AfternoonChange x = Due.made("b09c", "c", even, 32, 0);
            for (int b = 0; b < 10; b++) {
                x.worth(1, b);
                for (int c = 0; c < 10; c++) {
                    x.worth(2, c);
                    Due.is(b + " for " + c + ", even by " + even, x.has(0, 0), Math.abs(b - c) <= even ? 2 : 1);
                }
            }
        }
        Due.is("another one, as even", Due.made("b09c;e09c", "C").count(4), 1);
        Due.is("another one, not as even", Due.made("b09c;f09c", "C").count(4), 0);
        Due.is("another one, not as even, down", Due.made("e09d;a09d;b09d;c09g", "DG").torn(9, 3), 0);
    }

    private static void firstWholeOne() {
        Due.sentence("the first whole one in THE BAG, from the top, that it WANTS, is taken out, and what it HAS goes to "
            + "the bottom; it HAS that then.");
        AfternoonChange x = Due.made("b09c", "CcBc");
        Due.row("the first of two", Due.bagOf(x, 0), 10, 9, 2, 1);
        Due.is("it has that", x.has(0, 0), 2);
        Due.row("the only one", Due.bagOf(Due.made("b09c", "c"), 0), 1);
        Due.row("the top", Due.bagOf(Due.made("b09c", "cdh"), 0), 3, 7, 1);
        Due.row("the bottom", Due.bagOf(Due.made("b09c", "dhc"), 0), 3, 7, 1);
        Due.row("the bottom of sixteen", Due.bagOf(Due.made("b09c", "aaaaaaaaaaaaaaac"), 9),
            0, 0, 0, 0, 0, 0, 0, 0, 0, 0, 0, 0, 0, 0, 0, 1);
        Due.is("an empty bag", Due.made("b09c", "").has(9, 0), 1);
        Due.is("a bag without it", Due.made("b09c", "abdefgh").has(9, 0), 1);
    }

    private static void anotherOne() {
        Due.sentence("If there is none, but a torn one, and another one on board MAY, and WANTS the same, the least such one");
        Due.is("a whole one is there, below the torn one", Due.made("b09c;d09c", "Cc").torn(9, 0), 0);
        Due.is("no other one", Due.made("b09c", "CC").count(4), 0);
        Due.is("one not yet on board", Due.made("b09c;d69c", "C").count(4), 0);
        Due.is("one on board from there", Due.made("b09c;d59c", "C").count(4), 1);
        Due.is("one that wants another one", Due.made("b09c;b09d", "CD").count(4), 0);
        Due.row("the least", Due.hadBy(Due.made("h09h;b09c;d09c;e09c", "C"), 9, 4), 7, 2, 2, 4);
        Due.row("the least that may", Due.hadBy(Due.made("b09c;a09c;h09c;c09c;d09d;d06c;e09c", "C"), 9, 7),
            2, 0, 7, 2, 3, 2, 4);
        Due.row("two pairs of four", Due.hadBy(Due.made("b09c;d09c;e09c;b09c", "CC"), 0, 4), 2, 2, 2, 2);
        Due.is("two pairs are two changes", Due.made("b09c;d09c;e09c;b09c", "CC").count(4), 2);
        Due.row("the third finds no other", Due.hadBy(Due.made("b09c;d09c;e09c", "CC"), 9, 3), 2, 2, 4);
    }

    private static void firstTornOne() {
        Due.sentence("the first torn one is taken out, what the one HAS goes to the bottom, then what the other one HAS; both "
            + "have it then.");
        AfternoonChange x = Due.made("e09c;b09c", "aCbC");
        Due.row("the first of two", Due.bagOf(x, 0), 0, 1, 10, 4, 1);
        Due.row("both", Due.hadBy(x, 0, 2), 2, 2);
        Due.is("both are torn", x.torn(0, 0) + x.torn(0, 1), 2);
        Due.row("the only one", Due.bagOf(Due.made("e09c;b09c", "C"), 0), 4, 1);
        x = Due.made("b09c;b09c;d09e;d09e;e09f;e09f;f09g;f09g", "AAAAAAAAAAAACEFG");
        Due.is("four pairs, the bag of 16 has 20", x.bag(0, NONE), 20);
        Due.is("all are served", x.served(0), 255);
        x = Due.made("b09c;d09c;e09d", "C");
        Due.is("what the other one had is there at once", x.has(0, 2), 3);
    }

    private static void nextDay() {
        Due.sentence("All stay as they are for the next DAY, RIDERS and THE BAG.");
        AfternoonChange x = Due.made("b09c;c09d;d09e", "eH");
        Due.row("behind day 0", Due.bagOf(x, 0), 15, 3);
        Due.row("behind day 1", Due.bagOf(x, 1), 15, 2);
        Due.row("behind day 2", Due.bagOf(x, 2), 15, 1);
        Due.row("behind day 3", Due.bagOf(x, 3), 15, 1);
        Due.row("riders behind day 0", Due.hadBy(x, 0, 3), 1, 2, 4);
        Due.row("riders behind day 1", Due.hadBy(x, 1, 3), 1, 3, 4);
        Due.row("riders behind day 2", Due.hadBy(x, 2, 3), 2, 3, 4);
        Due.row("riders behind day 9", Due.hadBy(x, 9, 3), 2, 3, 4);
        x = Due.made("b04c;d04c;c89h", "", 2, 1, 4);
        Due.row("left on day 0, taken on day 1", new int[] {x.first(0), x.first(1), x.first(2)}, 1, 0, 0);
    }

    private static void behindADay() {
        Due.sentence("Behind a DAY what a RIDER HAS (0 to 7; NONE)");
        AfternoonChange x = Due.made("a00a;h00a;b09h;g09h", "h", 9, 32, 8);
        Due.row("day 0", Due.hadBy(x, 0, 4), 0, 7, 7, NONE);
        Due.row("day 9", Due.hadBy(x, 9, 4), 0, 7, 7, NONE);
    }

    /** No torn one is taken behind day 0: the two and the torn one were there at that stop on day 0, too. */
    private static void tornByDays() {
        Due.sentence("whether that was torn from another one's, by DAYS up to it.");
        AfternoonChange x = Due.made("b01d;c01d;e09e", "D", 2, 1, 0);
        for (int day = 0; day < 10; day++) {
            Due.row("day " + day, tornOf(x, day, 3), 1, 1, 0);
        }
        x.set(0, 1);
        Due.row("not even, never", tornOf(x, 9, 3), 0, 0, 0);
        x.set(0, 2);
        x.set(2, 2);
        Due.row("who left his has none that is torn, the one keeps his", tornOf(x, 0, 3), 1, 0, 0);
        x.set(2, 3);
        Due.row("both left it", tornOf(x, 0, 3), 0, 0, 0);
        Due.row("a whole one went ahead", tornOf(Due.made("b09d;c09d", "Dd"), 9, 2), 0, 0);
        Due.row("two of three", tornOf(Due.made("b09d;c09d;e09d", "dD"), 9, 3), 0, 1, 1);
        Due.row("changed on day 1", tornOf(Due.made("b09c;c09d", "d"), 1, 2), 0, 0);
        Due.is("its own at first", Due.made("d09d", "D").torn(0, 0), 0);
    }

    private static int[] tornOf(AfternoonChange x, int day, int riders) {
        int[] row = new int[riders];
        for (int r = 0; r < riders; r++) {
            row[r] = x.torn(day, r);
        }
        return row;
    }

    private static void bagBehindADay() {
        Due.sentence("THE BAG behind a DAY: how many there are in it; the i-th from the top (0 to 7 whole, 8 to 15 torn).");
        AfternoonChange x = Due.made("", "ahAH");
        Due.is("how many", x.bag(9, NONE), 4);
        Due.row("all kinds of edges", Due.bagOf(x, 9), 0, 7, 8, 15);
        x = new AfternoonChange();
        Due.is("empty", x.bag(0, NONE), 0);
        Due.is("empty, the top", x.bag(0, 0), NONE);
        // 16 told, 4 more by torn ones, 8 more left on seats
        x = Due.made("b09c;b09c;d09e;d09e;e09f;e09f;f09g;f09g", "CEFGAAAAAAAAAAAA", 2, 32, 255);
        Due.is("full", x.bag(0, NONE), 28);
        Due.row("full, from the top", Due.bagOf(x, 9), 8, 8, 8, 8, 8, 8, 8, 8, 8, 8, 8, 8,
            1, 1, 3, 3, 4, 4, 5, 5, 2, 2, 4, 4, 5, 5, 6, 6);
    }

    private static void getsFirstDay() {
        Due.sentence("GETS of a RIDER: the first DAY behind which it HAS what it WANTS; NONE.");
        Due.is("at first", Due.made("c00c", "").gets(0), 0);
        Due.is("on day 0", Due.made("b09c", "c").gets(0), 0);
        Due.is("on day 7", Due.made(SLOW, "a").gets(0), 7);
        Due.is("never", Due.made("b09c", "").gets(0), NONE);
        Due.is("not behind a day", Due.made("b09c", "c", 2, 32, 1).gets(0), NONE);
        Due.is("at first, but not behind a day", Due.made("c09c", "", 2, 32, 1).gets(0), NONE);
    }

    private static void firstChange() {
        Due.sentence("FIRST change: on which DAY; at which STOP; who (the one by whose turn it is); NONE.");
        firstIs(new AfternoonChange(), NONE, NONE, NONE);
        firstIs(Due.made("b09c", ""), NONE, NONE, NONE);
        firstIs(Due.made("b09c", "c", 2, 1023, 0), 0, 0, 0);
        firstIs(Due.made("h09h;h09h;h09h;h09h;h09h;h09h;h09h;b89c", "c", 2, 1023, 0), 0, 8, 7);
        firstIs(Due.made("b39c;d69e", "ce", 2, 64 + 8, 0), 0, 3, 0);
        firstIs(Due.made("b69c;d39e", "ce", 2, 64 + 8, 0), 0, 3, 1);
        firstIs(Due.made("h09h;e09c;b09c", "C", 2, 32, 0), 0, 5, 1);
        firstIs(Due.made("c89h;b09c", "", 2, 1, 1), 1, 0, 1);
        firstIs(Due.made("c89h", "", 2, 1, 1), NONE, NONE, NONE);
    }

    private static void firstIs(AfternoonChange x, int day, int stop, int who) {
        Due.row("first", new int[] {x.first(0), x.first(1), x.first(2)}, day, stop, who);
    }

    /** NONE cannot be: each changes once at most, so 8 riders leave day 8 still. */
    private static void still() {
        Due.sentence("STILL: the first DAY on which nothing is changed; NONE.");
        Due.is("no riders", new AfternoonChange().still(), 0);
        Due.is("none changes", Due.made("b09c", "").still(), 0);
        Due.is("one", Due.made("b09c", "c").still(), 1);
        Due.is("all on one day", Due.made("b09c;b09c;b09c", "ccc").still(), 1);
        Due.is("a change on each of 8 days", Due.made(SLOW, "a").still(), 8);
        Due.is("leaving is no change", Due.made("b09c", "", 2, 32, 1).still(), 0);
        Due.is("the first, though a change follows", Due.made("c89h;b09c", "", 2, 1, 1).still(), 0);
    }

    private static void servedAsBits() {
        Due.sentence("SERVED behind a DAY: RIDERS that have what they WANT, as bits.");
        Due.is("no riders", new AfternoonChange().served(9), 0);
        Due.is("none", Due.made("b09c;b09d", "").served(9), 0);
        Due.is("all eight", Due.made("a00a;b00b;c00c;d00d;e00e;f00f;g00g;h00h", "").served(0), 255);
        Due.is("the last alone", Due.made("b09c;b09c;b09c;b09c;b09c;b09c;b09c;c09c", "").served(0), 128);
        Due.is("the first alone", Due.made("b09c;b09c;b09c;b09c;b09c;b09c;b09c;b09c", "c").served(9), 1);
        Due.is("a torn one serves", Due.made("b09c;b09c", "C").served(0), 3);
        Due.is("who left his is not served", Due.made("b09c;b09c", "C", 2, 32, 1).served(0), 2);
        Due.is("behind day 6", Due.made(SLOW, "a").served(6), 254);
        Due.is("behind day 7", Due.made(SLOW, "a").served(7), 255);
    }

    private static void rings() {
        Due.sentence("RINGS: threes of RIDERS who at first might have changed among each other, each WANTING what the next one "
            + "HAS, none what it HAS itself");
        ringsAre("", 0, NONE);
        ringsAre("b09c;c09b", 0, NONE);
        ringsAre("b09c;c09d;d09b", 1, 8 + 2);
        ringsAre("b09d;d09c;c09b", 1, 8 + 2);
        ringsAre("b09c;c09d;d09c", 0, NONE);
        ringsAre("b09c;c09c;c09b", 0, NONE);
        ringsAre("b09b;b09b;b09b", 0, NONE);
        ringsAre("b09c;c09d;d09e;e09b", 0, NONE);
        ringsAre("b00c;c90d;d55b", 1, 8 + 2);
        Due.sentence("how many; the least, as 64 times the least, 8 times the middle one and the greatest; NONE.");
        ringsAre("a00a;a00a;a00a;a00a;a00a;b00c;c00d;d00b", 1, 64 * 5 + 8 * 6 + 7);
        ringsAre("a00a;a00a;a00a;a00a;a00a;d00b;c00d;b00c", 1, 64 * 5 + 8 * 6 + 7);
        ringsAre("b00c;b00c;b00c;c00d;c00d;c00d;d00b;d00b", 18, 8 * 3 + 6);
        ringsAre("d00b;d00b;c00d;c00d;c00d;b00c;b00c;b00c", 18, 8 * 2 + 5);
        ringsAre("e00f;b00c;f00g;c00d;g00e;d00b", 2, 8 * 2 + 4);
        ringsAre("b00c;e00f;c00d;f00g;g00e;d00b", 2, 8 * 2 + 5);
    }

    private static void ringsAre(String riders, int many, int least) {
        AfternoonChange x = Due.made(riders, "");
        Due.is("rings of " + riders, x.rings(0), many);
        Due.is("the least of " + riders, x.rings(1), least);
    }

    private static void has() {
        Due.sentence("What a RIDER HAS; NONE. BAD.");
        AfternoonChange x = Due.made("b09c;h09h", "c", 2, 32, 2);
        Due.is("day 0", x.has(0, 0), 2);
        Due.is("day 9", x.has(9, 0), 2);
        Due.is("none", x.has(0, 1), NONE);
        Due.is("day -1", x.has(-1, 0), BAD);
        Due.is("day 10", x.has(10, 0), BAD);
        Due.is("rider -1", x.has(0, -1), BAD);
        Due.is("rider 2", x.has(0, 2), BAD);
        for (int far : FAR) {
            Due.is("a far day", x.has(far, 0), BAD);
            Due.is("a far rider", x.has(0, far), BAD);
        }
        Due.is("no riders", new AfternoonChange().has(0, 0), BAD);
        Due.is("the eighth", Due.made(SLOW, "").has(9, 7), 1);
        Due.is("a ninth", Due.made(SLOW, "").has(9, 8), BAD);
    }

    private static void torn() {
        Due.sentence("Whether what it HAS is torn: 1, 0. BAD.");
        AfternoonChange x = Due.made("b09c;d09c", "C");
        Due.is("day 0", x.torn(0, 0), 1);
        Due.is("day 9", x.torn(9, 1), 1);
        Due.is("day -1", x.torn(-1, 0), BAD);
        Due.is("day 10", x.torn(10, 0), BAD);
        Due.is("rider -1", x.torn(0, -1), BAD);
        Due.is("rider 2", x.torn(0, 2), BAD);
        for (int far : FAR) {
            Due.is("a far day", x.torn(far, 0), BAD);
            Due.is("a far rider", x.torn(0, far), BAD);
        }
        Due.is("no riders", new AfternoonChange().torn(0, 0), BAD);
        x = Due.made("b09b;b09b;b09b;b09b;b09b;b09b;b09c;b09c", "C");
        Due.is("the eighth", x.torn(9, 7), 1);
        Due.is("a ninth", x.torn(9, 8), BAD);
    }

    private static void bag() {
        Due.sentence("THE BAG: how many (i = NONE), the i-th (0 to 27; NONE). BAD.");
        AfternoonChange x = Due.made("b09c;b09c;d09e;d09e;e09f;e09f;f09g;f09g", "CEFGAAAAAAAAAAAH", 2, 32, 255);
        Due.is("how many", x.bag(0, NONE), 28);
        Due.is("i = 0", x.bag(0, 0), 8);
        Due.is("i = 27", x.bag(9, 27), 6);
        Due.is("i = -2", x.bag(0, -2), BAD);
        Due.is("i = 28", x.bag(0, 28), BAD);
        Due.is("day -1", x.bag(-1, 0), BAD);
        Due.is("day 10", x.bag(10, 0), BAD);
        Due.is("how many of day 10", x.bag(10, NONE), BAD);
        for (int far : FAR) {
            Due.is("a far day", x.bag(far, 0), BAD);
            Due.is("a far place", x.bag(0, far), BAD);
        }
        x = Due.made("", "ab");
        Due.is("the last", x.bag(0, 1), 1);
        Due.is("behind the last", x.bag(0, 2), NONE);
        Due.is("far behind the last", x.bag(0, 27), NONE);
        Due.is("beyond what may be", x.bag(0, 28), BAD);
    }

    private static void gets() {
        Due.sentence("GETS; NONE. BAD.");
        AfternoonChange x = Due.made(SLOW, "a");
        Due.is("rider 0", x.gets(0), 7);
        Due.is("rider 7", x.gets(7), 0);
        Due.is("rider -1", x.gets(-1), BAD);
        Due.is("rider 8", x.gets(8), BAD);
        for (int far : FAR) {
            Due.is("a far rider", x.gets(far), BAD);
        }
        Due.is("one that there is not", Due.made("b09c", "c").gets(1), BAD);
        Due.is("no riders", new AfternoonChange().gets(0), BAD);
    }

    private static void first() {
        Due.sentence("FIRST: the DAY (what = 0), the STOP (1), who (2); NONE. BAD.");
        AfternoonChange[] both = {new AfternoonChange(), Due.made("b09c", "c")};
        for (AfternoonChange x : both) {
            Due.is("what = -1", x.first(-1), BAD);
            Due.is("what = 3", x.first(3), BAD);
            for (int far : FAR) {
                Due.is("a far what", x.first(far), BAD);
            }
        }
        firstIs(both[0], NONE, NONE, NONE);
        firstIs(both[1], 0, 5, 0);
    }

    private static void served() {
        Due.sentence("SERVED, as bits. BAD.");
        AfternoonChange x = Due.made("b09c", "c");
        Due.is("day 0", x.served(0), 1);
        Due.is("day 9", x.served(9), 1);
        Due.is("day -1", x.served(-1), BAD);
        Due.is("day 10", x.served(10), BAD);
        for (int far : FAR) {
            Due.is("a far day", x.served(far), BAD);
        }
    }

    private static void ringsWhat() {
        Due.sentence("RINGS: how many (what = 0), the least (1; NONE). BAD.");
        AfternoonChange[] both = {new AfternoonChange(), Due.made("b09c;c09d;d09b", "")};
        for (AfternoonChange x : both) {
            Due.is("what = -1", x.rings(-1), BAD);
            Due.is("what = 2", x.rings(2), BAD);
            for (int far : FAR) {
                Due.is("a far what", x.rings(far), BAD);
            }
        }
        Due.row("none", new int[] {both[0].rings(0), both[0].rings(1)}, 0, NONE);
        Due.row("one", new int[] {both[1].rings(0), both[1].rings(1)}, 1, 10);
    }
}
