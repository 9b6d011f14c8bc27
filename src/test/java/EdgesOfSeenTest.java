import java.math.BigInteger;

/** The edges that the document names for what was seen, chances and depots (promises 20 to 27): a test for each sentence. */
public final class EdgesOfSeenTest {
    private static final int NONE = -1, BAD = -2, FULL = -4, NULL = -11;
    private static final int[] FAR = {Integer.MIN_VALUE, Integer.MAX_VALUE};
    private static final long LONG_BAD = Long.MIN_VALUE + 2;
    /** One changes on each of days 0 to 7, the last one first, with the bag a. */
    private static final String SLOW = "g09h;h09g;g09f;f09e;e09d;d09c;c09b;b09a";

    public static void main(String[] args) {
        eightAtMost();
        behindADay();
        none();
        thatThereIsNot();
        hadAtFirst();
        evenWas();
        askLeast();
        askNoneToo();
        askNone();
        lowestTerms();
        chances();
        forAllDays();
        lots();
        depotInPlace();
        seen();
        forget();
        readWholeOnes();
        readAsEachMayBe();
        readUpToEight();
        readRefused();
        had();
        was();
        ask();
        maybe();
        depot();
        Due.end("EdgesOfSeenTest");
    }

    private static void eightAtMost() {
        Due.sentence("SEEN, 8 at most: behind a DAY a RIDER (0 to 7) had an AFTERNOON (0 to 7");
        AfternoonChange x = Due.made("b09b;c09c;d09d;e09e;f09f;g09g;h09h;a09a", "");
        int[] has = {1, 2, 3, 4, 5, 6, 7, 0};
        for (int r = 0; r < 8; r++) {
            Due.is("seen " + r, x.seen(r % 2 * 9, r, has[r]), r + 1);
            Due.is("it came out so", x.was(), 1023);
        }
        Due.is("a ninth", x.seen(0, 0, 1), FULL);
        Due.is("a ninth that would not come out", x.seen(0, 0, 5), FULL);
        Due.is("how many", x.count(7), 8);
        Due.is("it did not count", x.was(), 1023);
        x.forget();
        for (int n = 1; n <= 7; n++) {
            x.seen(0, 0, 1);
        }
        Due.is("the eighth counts", x.seen(9, 7, 7), 8);
        Due.is("it did not come out so", x.was(), 0);
    }

    private static void behindADay() {
        Due.sentence("behind a DAY a RIDER (0 to 7) had an AFTERNOON");
        // the first one gets his on day 7
        AfternoonChange x = Due.made(SLOW, "a");
        for (int day = 0; day < 10; day++) {
            x.forget();
            x.seen(day, 0, 6);
            Due.is("a g behind " + day, x.was(), day < 7 ? 1023 : 1);
            x.forget();
            x.seen(day, 0, 7);
            Due.is("an h behind " + day, x.was(), day < 7 ? 0 : 1022);
        }
        x.forget();
        x.seen(6, 0, 6);
        x.seen(7, 0, 7);
        x.seen(0, 7, 0);
        Due.is("three of three days", x.was(), 1022);
        Due.is("three of three days, had", x.had(7) & 2, 2);
    }

    private static void none() {
        Due.sentence("8: none");
        AfternoonChange x = Due.made("b09c;b09b", "c", 2, 32, 1);
        x.seen(0, 0, 8);
        Due.is("who left his", x.was(), 1023);
        x.seen(9, 0, 8);
        Due.is("on all days", x.was(), 1023);
        x.seen(9, 1, 8);
        Due.is("who has one", x.was(), 0);
        x.forget();
        x.seen(0, 0, 1);
        Due.is("who left his had no b", x.was(), 0);
        x.set(2, 0);
        x.forget();
        x.seen(0, 0, 8);
        Due.is("who leaves none", x.was(), 0);
    }

    private static void thatThereIsNot() {
        Due.sentence("one that there is not: never");
        AfternoonChange x = Due.made("b09c", "c");
        x.seen(0, 1, 8);
        Due.is("was", x.was(), 0);
        Due.is("had", x.had(0), 0);
        Due.is("ask", x.ask(0), 0);
        Due.type(x, 0, ";h00h");
        Due.is("it is there, with an h", x.was(), 0);
        x.forget();
        x.seen(0, 1, 7);
        Due.is("the h was seen", x.was(), 1023);
        x.undo(0);
        Due.is("with a fault there is none", x.was(), 0);
        x = new AfternoonChange();
        x.seen(0, 0, 8);
        Due.is("of no riders", x.was(), 0);
        x.forget();
        Due.is("nothing was seen of no riders", x.was(), 1023);
    }

    private static void hadAtFirst() {
        Due.sentence("HAD of a RIDER: AFTERNOONS, in place of what it HAS at first, by which all that was SEEN comes out so, "
            + "as bits.");
        AfternoonChange x = Due.made("b00c", "c");
        for (int a = 0; a < 8; a++) {
            x.forget();
            x.seen(9, 0, a);
            Due.is("that alone", x.had(0), 1 << a);
        }
        x = Due.made("h09e", "e");
        x.seen(0, 0, 4);
        // c to g are as even as 2; h is not, and what it has at first does not matter
        Due.is("all that are even", x.had(0), 4 + 8 + 16 + 32 + 64);
        x.seen(0, 0, 0);
        Due.is("not both", x.had(0), 0);
        x.forget();
        x.seen(9, 0, 0);
        Due.is("a Monday stays", x.had(0), 1);
        Due.is("it has at first what it had", x.rider(0, 0), 7);
        x = Due.made("h09e;g09h", "e", 9, 32, 0);
        x.seen(0, 1, 7);
        Due.is("by what another one had", x.had(0), 128);
    }

    private static void evenWas() {
        Due.sentence("WAS: EVEN (0 to 9) in place of its own, likewise, as bits.");
        for (int c = 0; c < 10; c++) {
            AfternoonChange x = Due.made("b09c", "c");
            x.worth(1, 9);
            x.worth(2, 9 - c);
            x.seen(0, 0, 2);
            Due.is("even by " + c + " or more", x.was(), 1023 - ((1 << c) - 1));
            x.forget();
            x.seen(0, 0, 1);
            Due.is("even by less than " + c, x.was(), (1 << c) - 1);
            Due.is("its own stays", x.set(0, 0), 2);
            Due.is("in place of its own", x.was(), (1 << c) - 1);
        }
    }

    private static void askLeast() {
        Due.sentence("ASK behind a DAY: the RIDER of which the greatest number of those by which EVEN WAS so that it HAS alike");
        // by 0 to 4 and 5 to 9 the last one has b and g, and so he tells the most
        AfternoonChange x = Due.made("b09c;b09e;b09g", "ceg");
        Due.is("1 and 9, 3 and 7, 5 and 5", x.ask(0), 2);
        x.seen(0, 2, 1);
        Due.is("1 and 4, 3 and 2, 5", x.ask(0), 1);
        x.seen(0, 1, 1);
        Due.is("1 and 2, 3, 3", x.ask(0), 0);
        x.seen(0, 0, 1);
        Due.is("1, 1, 1", x.ask(0), 0);
        Due.sentence("is least, of like ones the least");
        x = Due.made("b09b;b09c;b09c", "cc");
        Due.is("10, 1 and 9, 1 and 9", x.ask(9), 1);
        Due.is("all alike", Due.made("b09b;c09c", "").ask(9), 0);
        x = Due.made("b09b;b09c", "c");
        x.worth(1, 0);
        x.worth(2, 9);
        Due.is("10, 9 and 1: EVEN is 9, too", x.ask(0), 1);
        x.worth(2, 1);
        Due.is("10, 1 and 9: EVEN is 0, too", x.ask(0), 1);
    }

    private static void askNoneToo() {
        Due.sentence("(none, too)");
        AfternoonChange x = Due.made("b09c;b09e", "ce", 2, 32, 1);
        Due.is("none ten times, 3 and 7", x.ask(9), 1);
        x = Due.made("b09e;b09c", "ce", 2, 32, 1);
        Due.is("none ten times, 1 and 9", x.ask(9), 1);
        x = Due.made("b09c;h09h", "c", 2, 32, 3);
        Due.is("none by both", x.ask(0), 0);
    }

    private static void askNone() {
        Due.sentence("NONE: there are none.");
        AfternoonChange x = new AfternoonChange();
        Due.is("no riders", x.ask(0), NONE);
        x.seen(0, 0, 0);
        Due.is("no riders, seen", x.ask(9), NONE);
        x = Due.made("b09c;b09c;", "c");
        Due.is("with a fault", x.ask(0), NONE);
        x.undo(0);
        x.seen(0, 7, 0);
        Due.is("riders, but no EVEN: 0 of each", x.ask(0), 0);
    }

    private static void fractionIs(AfternoonChange x, int[] call, long above, long below) {
        String told = "maybe(" + call[0] + ", " + call[1] + ", " + call[2] + ")";
        Due.is(told + " above", x.maybe(call[0], call[1], call[2], 0), above);
        Due.is(told + " below", x.maybe(call[0], call[1], call[2], 1), below);
    }

    private static void lowestTerms() {
        Due.sentence("FRACTIONS are told in lowest terms, above and below (0 by 1).");
        AfternoonChange x = Due.made("b09c;b09d;c00c", "c");
        long[] above = {0, 1, 1, 3, 1, 5, 3, 7, 1, 9, 5, 11, 3, 13, 7, 15, 1};
        long[] below = {1, 16, 8, 16, 4, 16, 8, 16, 2, 16, 8, 16, 4, 16, 8, 16, 1};
        for (int c = 0; c <= 16; c++) {
            fractionIs(x, new int[] {c, 0, 0}, above[c], below[c]);
            fractionIs(x, new int[] {c, 9, 1}, 0, 1);
            fractionIs(x, new int[] {c, 9, 2}, 1, 1);
        }
    }

    private static void chances() {
        Due.sentence("MAYBE: each of CHANGES is open by c sixteenths (0 to 16), by itself");
        AfternoonChange x = Due.made("b09c", "c", 2, 1023, 0);
        for (int c = 0; c <= 16; c++) {
            // one of stops 0 to 8 is open; at stop 9 he has left
            BigInteger below = BigInteger.valueOf(16).pow(9);
            BigInteger above = below.subtract(BigInteger.valueOf(16 - c).pow(9));
            BigInteger gcd = above.gcd(below);
            fractionIs(x, new int[] {c, 0, 0}, above.divide(gcd).longValue(), below.divide(gcd).longValue());
        }
        x.set(1, 0);
        fractionIs(x, new int[] {16, 9, 0}, 0, 1);
        x.set(1, 512);
        fractionIs(x, new int[] {16, 9, 0}, 0, 1);
        x = Due.made("c79d;b49d", "d", 2, 16 + 128, 0);
        // the first one's chance: 7 open and 4 not; a closed stop matters
        fractionIs(x, new int[] {4, 9, 0}, 3, 16);
        fractionIs(x, new int[] {16, 9, 0}, 0, 1);
        fractionIs(x, new int[] {4, 9, 1}, 1, 4);
        Due.is("CHANGES stay", x.count(6), 16 + 128);
        x.undo(1);
        fractionIs(x, new int[] {4, 9, 0}, 0, 1);
        x.type(1, 'd');
        fractionIs(x, new int[] {4, 9, 0}, 3, 16);
        x = Due.made("b01c;d12c;d23c;d34c;d45c;d56c;d67c;b79c", "c", 2, 1023, 0);
        // the last one gets it if stops 0 to 6 are closed, and 7 or 8 is open
        fractionIs(x, new int[] {8, 9, 7}, 3, 512);
        fractionIs(x, new int[] {1, 9, 7}, 170859375L * 31, 68719476736L);
    }

    private static void forAllDays() {
        Due.sentence("for all DAYS: the chance that a RIDER HAS what it WANTS behind a DAY: a FRACTION.");
        AfternoonChange x = Due.made(SLOW, "a", 2, 1, 0);
        for (int day = 0; day < 10; day++) {
            boolean gets = day >= 7;
            fractionIs(x, new int[] {8, day, 0}, gets ? 1 : 0, gets ? 2 : 1);
        }
        x = Due.made("b09c", "c", 2, 32, 1);
        fractionIs(x, new int[] {16, 0, 0}, 0, 1);
        x = Due.made("c09c", "c", 2, 32, 1);
        fractionIs(x, new int[] {0, 0, 0}, 0, 1);
    }

    /** Whoever wants an afternoon is served if a lot is that one. */
    private static void lots() {
        Due.sentence("LOTS of m: SEED becomes 1103515245 SEED and 12345, as ints that wrap; its upper 16 bits as a number from 0 "
            + "on, modulo m.");
        int[] seeds = {0, 1, -1, 2, 7, 12345, Integer.MIN_VALUE, Integer.MAX_VALUE, 1 << 30, -1103515245, 1103515245};
        for (int seed : seeds) {
            BigInteger s = BigInteger.valueOf(seed);
            boolean[] drawn = new boolean[8];
            for (int n = 1; n <= 16; n++) {
                BigInteger room = BigInteger.ONE.shiftLeft(32);
                s = s.multiply(BigInteger.valueOf(1103515245)).add(BigInteger.valueOf(12345)).mod(room);
                drawn[s.shiftRight(16).intValue() % 8] = true;
                for (int a = 0; a < 8; a++) {
                    String rider = (a == 1 ? "c" : "b") + "09" + (char) ('a' + a);
                    AfternoonChange x = Due.made(rider, "", 9, 32, 0);
                    Due.is("seed " + seed + ", " + n + " lots, " + a, x.depot(seed, n, 0), drawn[a] ? 1 : 0);
                    Due.is("seed " + seed + ", in it", x.depot(seed, n, 1), n);
                }
            }
        }
    }

    private static void depotInPlace() {
        Due.sentence("DEPOT by a SEED: n LOTS of 8 (0 to 16), whole ones, are THE BAG, in place of that told: how many are SERVED "
            + "behind DAY 9; how many are in it then.");
        AfternoonChange x = Due.made("b09c;b09c;h00h", "cc");
        Due.is("no lots", x.depot(1, 0, 0), 1);
        Due.is("no lots, in it", x.depot(1, 0, 1), 0);
        Due.is("16 lots, in it", x.depot(1, 16, 1), 16);
        Due.row("the bag that was told stays", new int[] {x.count(1), x.bag(0, NONE), x.served(9)}, 2, 2, 7);
        x.set(2, 7);
        Due.is("two leave theirs", x.depot(1, 16, 1), 18);
        Due.is("two leave theirs, nobody else is served", x.depot(1, 16, 0), 1);
        Due.is("into an empty one", x.depot(1, 0, 1), 2);
        x = Due.made("b09b;b09b;b09b;b09b;b09b;b09b;b09b;b09b", "", 2, 32, 255);
        Due.is("eight leave theirs", x.depot(1, 16, 1), 24);
        Due.is("none is served", x.depot(1, 16, 0), 0);
        x.set(2, 0);
        Due.is("all are served", x.depot(1, 16, 0), 8);
        Due.is("no riders", new AfternoonChange().depot(1, 16, 0), 0);
        Due.is("no riders, in it", new AfternoonChange().depot(1, 16, 1), 16);
        x = Due.made("b09c;b09c", "C");
        Due.is("a c among them is whole, and serves one alone", x.depot(7, lotsUpToTheFirstC(), 0), 1);
    }

    /** By the seed 7. */
    private static int lotsUpToTheFirstC() {
        long s = 7;
        for (int n = 1; n <= 16; n++) {
            s = (s * 1103515245L + 12345L) & 0xFFFFFFFFL;
            if ((s >> 16) % 8 == 2) {
                return n;
            }
        }
        return 0;
    }

    private static void seen() {
        Due.sentence("SEEN more: how many. BAD; FULL.");
        AfternoonChange x = new AfternoonChange();
        int[][] wrong = {{-1, 0, 0}, {10, 0, 0}, {0, -1, 0}, {0, 8, 0}, {0, 0, -1}, {0, 0, 9}};
        for (int n = 0; n <= 8; n++) {
            for (int[] w : wrong) {
                Due.is("bad with " + n, x.seen(w[0], w[1], w[2]), BAD);
            }
            Due.is("how many", x.count(7), n);
            Due.is("one more", x.seen(n % 2 * 9, n % 2 * 7, n % 2 * 8), n < 8 ? n + 1 : FULL);
        }
        for (int far : FAR) {
            Due.is("a far day", x.seen(far, 0, 0), BAD);
            Due.is("a far rider", x.seen(0, far, 0), BAD);
            Due.is("a far afternoon", x.seen(0, 0, far), BAD);
        }
    }

    private static void forget() {
        Due.sentence("All SEEN are forgotten: how many.");
        AfternoonChange x = new AfternoonChange();
        Due.is("none", x.forget(), 0);
        for (int n = 1; n <= 8; n++) {
            x.seen(0, 0, 0);
        }
        Due.is("eight", x.forget(), 8);
        Due.is("none then", x.forget(), 0);
        Due.is("how many", x.count(7), 0);
        Due.is("what was seen does not count", x.was(), 1023);
        Due.is("room again", x.seen(0, 0, 0), 1);
    }

    private static AfternoonChange withSheet(int form, int... items) {
        AfternoonChange x = Due.made("b09e;c09c", "e");
        Due.lay(x, 3, form, items);
        return x;
    }

    private static void readWholeOnes() {
        Due.sentence("SEEN from a SHEET: its items, three for each, as many as are whole");
        for (int n = 0; n <= 10; n++) {
            AfternoonChange x = withSheet(n % 3, new int[n]);
            Due.is(n + " items", x.read(3), n / 3);
            Due.is(n + " items, how many", x.count(7), n / 3);
        }
        AfternoonChange x = withSheet(0, 0, 0, 4, 9, 1, 2, 9, 9);
        Due.is("two and a part that may not be", x.read(3), 2);
        Due.is("they were seen", x.was(), 1023 - 7);
        Due.row("the sheet stays", Due.itemsOf(x, 3, 0, 8), 0, 0, 4, 9, 1, 2, 9, 9);
    }

    private static void readAsEachMayBe() {
        Due.sentence("as long as each may be: how many.");
        int[][] wrong = {{-1, 0, 0}, {10, 0, 0}, {0, -1, 0}, {0, 8, 0}, {0, 0, -1}, {0, 0, 9}};
        for (int form = 0; form < 3; form++) {
            for (int[] w : wrong) {
                AfternoonChange x = withSheet(form, w[0], w[1], w[2], 0, 0, 4);
                Due.is("the first may not be", x.read(3), 0);
                Due.is("nothing was seen", x.count(7), 0);
                x = withSheet(form, 0, 0, 4, 9, 1, 2, w[0], w[1], w[2], 0, 0, 4);
                Due.is("the third may not be", x.read(3), 2);
                Due.is("two were seen", x.count(7), 2);
            }
            AfternoonChange x = withSheet(form, 9, 7, 8, 0, 0, 0);
            Due.is("edges may be", x.read(3), 2);
        }
        Due.is("256 in bytes is 0", withSheet(0, 256, 256, 256).read(3), 1);
        Due.is("256 in shorts is not", withSheet(1, 256, 0, 0).read(3), 0);
        Due.is("65536 in shorts is 0", withSheet(1, 65536, 0, 0).read(3), 1);
        Due.is("65536 in ints is not", withSheet(2, 65536, 0, 0).read(3), 0);
        for (int far : FAR) {
            Due.is("far", withSheet(2, 0, 0, 0, 0, far, 0).read(3), 1);
        }
    }

    private static void readUpToEight() {
        Due.sentence("SEEN, 8 at most");
        for (int before = 0; before <= 8; before++) {
            AfternoonChange x = withSheet(1, new int[60]);
            for (int n = 0; n < before; n++) {
                x.seen(0, 0, 0);
            }
            Due.is("sixty items behind " + before, x.read(3), 8 - before);
            Due.is("eight", x.count(7), 8);
            Due.is("no more", x.read(3), 0);
            Due.is("no finding", x.count(8), 0);
        }
        AfternoonChange x = withSheet(1, 0, 0, 0);
        x.seen(0, 0, 0);
        Due.is("one more", x.read(3), 1);
        Due.is("two", x.count(7), 2);
    }

    private static void readRefused() {
        Due.sentence("BAD; NULL.");
        AfternoonChange x = withSheet(1, 0, 0, 0);
        Due.is("sheet -1", x.read(-1), BAD);
        Due.is("sheet 4", x.read(4), BAD);
        for (int far : FAR) {
            Due.is("a far sheet", x.read(far), BAD);
        }
        Due.is("no finding", x.count(8), 0);
        Due.is("a lost one", x.read(0), NULL);
        Due.is("the finding", x.count(8), 1);
        Due.is("nothing was seen", x.count(7), 0);
        x.lose(3);
        Due.is("one that was lost", x.read(3), NULL);
    }

    private static void had() {
        Due.sentence("HAD, as bits. BAD.");
        AfternoonChange x = Due.made("b09c;d00d", "c");
        Due.is("nothing was seen", x.had(0), 255);
        Due.is("nothing was seen, the last one", x.had(1), 255);
        Due.is("rider -1", x.had(-1), BAD);
        Due.is("rider 2", x.had(2), BAD);
        for (int far : FAR) {
            Due.is("a far rider", x.had(far), BAD);
        }
        Due.is("no riders", new AfternoonChange().had(0), BAD);
        Due.is("the eighth", Due.made(SLOW, "a").had(7), 255);
        Due.is("a ninth", Due.made(SLOW, "a").had(8), BAD);
    }

    private static void was() {
        Due.sentence("WAS, as bits.");
        AfternoonChange x = new AfternoonChange();
        Due.is("nothing was seen", x.was(), 1023);
        x.seen(0, 0, 0);
        Due.is("by none", x.was(), 0);
    }

    private static void ask() {
        Due.sentence("ASK; NONE. BAD.");
        AfternoonChange x = Due.made("b09e;e09g", "g");
        Due.is("day 0", x.ask(0), 1);
        Due.is("day 1", x.ask(1), 0);
        Due.is("day 9", x.ask(9), 0);
        AfternoonChange[] both = {x, new AfternoonChange()};
        for (AfternoonChange each : both) {
            Due.is("day -1", each.ask(-1), BAD);
            Due.is("day 10", each.ask(10), BAD);
            for (int far : FAR) {
                Due.is("a far day", each.ask(far), BAD);
            }
        }
    }

    private static void maybe() {
        Due.sentence("MAYBE: above, below. BAD. (As the least long.)");
        AfternoonChange x = Due.made("b09c;d00d", "c");
        int[][] wrong = {{-1, 0, 0, 0}, {17, 0, 0, 0}, {0, -1, 0, 0}, {0, 10, 0, 0}, {0, 0, -1, 0}, {0, 0, 2, 0},
            {0, 0, 0, -1}, {0, 0, 0, 2}};
        for (int[] w : wrong) {
            Due.is("bad", x.maybe(w[0], w[1], w[2], w[3]), LONG_BAD);
        }
        for (int far : FAR) {
            Due.is("a far chance", x.maybe(far, 0, 0, 0), LONG_BAD);
            Due.is("a far day", x.maybe(0, far, 0, 0), LONG_BAD);
            Due.is("a far rider", x.maybe(0, 0, far, 0), LONG_BAD);
            Due.is("a far what", x.maybe(0, 0, 0, far), LONG_BAD);
        }
        fractionIs(x, new int[] {0, 0, 0}, 0, 1);
        fractionIs(x, new int[] {16, 9, 1}, 1, 1);
        Due.is("no riders", new AfternoonChange().maybe(8, 0, 0, 0), LONG_BAD);
        Due.is("the eighth", Due.made(SLOW, "a").maybe(8, 0, 7, 1), 2);
        Due.is("a ninth", Due.made(SLOW, "a").maybe(8, 0, 8, 1), LONG_BAD);
    }

    private static void depot() {
        Due.sentence("DEPOT: how many are SERVED (what = 0), in THE BAG (1). BAD.");
        AfternoonChange[] both = {Due.made("b09c", "c"), new AfternoonChange()};
        for (AfternoonChange x : both) {
            Due.is("n = -1", x.depot(0, -1, 0), BAD);
            Due.is("n = 17", x.depot(0, 17, 0), BAD);
            Due.is("what = -1", x.depot(0, 1, -1), BAD);
            Due.is("what = 2", x.depot(0, 1, 2), BAD);
            for (int far : FAR) {
                Due.is("a far n", x.depot(0, far, 1), BAD);
                Due.is("a far what", x.depot(0, 1, far), BAD);
                Due.is("a far seed is none too far", x.depot(far, 16, 1), 16);
            }
        }
    }
}
