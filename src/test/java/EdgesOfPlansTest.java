/** The edges that the document names for plans (promises 17 to 19): a test for each sentence. */
public final class EdgesOfPlansTest {
    private static final int NONE = -1, BAD = -2;
    private static final int[] FAR = {Integer.MIN_VALUE, Integer.MAX_VALUE};
    /** Each needs what the next one has, on the next one's part of the way; the last one finds his in the bag f. */
    private static final String CHAIN = "b02c;c56d;d34e;e89f";
    /** One changes on each of days 0 to 7, the last one first, with the bag a. */
    private static final String SLOW = "g09h;h09g;g09f;f09e;e09d;d09c;c09b;b09a";

    public static void main(String[] args) {
        noneToThree();
        inPlaceOfThoseTold();
        behindDay9();
        leastBits();
        openNone();
        leastEven();
        mostAreServed();
        top();
        topOfAFullBag();
        topOfLikeOnes();
        open();
        least();
        topWhat();
        Due.end("EdgesOfPlansTest");
    }

    private static void openIs(String call, AfternoonChange x, int rider, int many, int bits) {
        Due.is(call + ", how many", x.open(rider, 0), many);
        Due.is(call + ", as bits", x.open(rider, 1), bits);
    }

    private static void noneToThree() {
        Due.sentence("OPEN for a RIDER: the fewest STOPS (0 to 3)");
        AfternoonChange x = Due.made(CHAIN + ";g00g", "f");
        openIs("who has it", x, 4, 0, 0);
        openIs("one", x, 3, 1, 256);
        openIs("two", x, 2, 2, 256 + 8);
        openIs("three", x, 1, 3, 256 + 8 + 32);
        openIs("four", x, 0, NONE, NONE);
        openIs("who has it, though it would not go away", Due.made("c09c", "c"), 0, 0, 0);
    }

    private static void inPlaceOfThoseTold() {
        Due.sentence("as CHANGES in place of those told");
        AfternoonChange x = Due.made("b09c", "c");
        int[] told = {0, 1, 32, 512, 1023};
        for (int changes : told) {
            x.set(1, changes);
            openIs("told " + changes, x, 0, 1, 1);
            Due.is("those told stay", x.count(6), changes);
        }
        x.set(1, 0);
        openIs("none told", x, 0, 1, 1);
        Due.is("none served by those told", x.served(9), 0);
        x.undo(1);
        openIs("nothing in the bag any more", x, 0, NONE, NONE);
        x.type(1, 'c');
        openIs("in the bag again", x, 0, 1, 1);
        x.set(0, 0);
        openIs("not even any more", x, 0, NONE, NONE);
        x.worth(1, 3);
        openIs("even again", x, 0, 1, 1);
        x.set(2, 1);
        openIs("left on the seat from now on", x, 0, NONE, NONE);
    }

    private static void behindDay9() {
        Due.sentence("by which it HAS what it WANTS behind DAY 9");
        openIs("on day 7", Due.made(SLOW, "a"), 0, 1, 1);
        openIs("left on the seat", Due.made("b09c", "c", 2, 32, 1), 0, NONE, NONE);
        openIs("had, and left on the seat", Due.made("c09c", "", 2, 32, 1), 0, NONE, NONE);
        openIs("had, and never on board", Due.made("c00c", "", 2, 32, 1), 0, 0, 0);
        // with stop 4 open the second one takes the d
        openIs("not a stop more", Due.made("c79d;b49d", "d"), 0, 1, 128);
    }

    private static void leastBits() {
        Due.sentence("of like ones the least bits");
        openIs("from stop 0", Due.made("b09c", "c"), 0, 1, 1);
        openIs("from stop 3", Due.made("b39c", "c"), 0, 1, 8);
        openIs("at stop 8 alone", Due.made("b89c", "c"), 0, 1, 256);
        openIs("two of many", Due.made("c04d;b59c", "d"), 1, 2, 1 + 32);
        openIs("two of many, the other way", Due.made("b04c;c69d", "d"), 0, 2, 1 + 64);
        // by stops 0 and 1, or by stop 8 alone
        openIs("the fewest ahead of the least bits", Due.made("g01h;e12g;e89f;d09e", "fh"), 3, 1, 256);
    }

    private static void openNone() {
        Due.sentence("how many; as bits; NONE.");
        openIs("a Monday", Due.made("a09b", "b"), 0, NONE, NONE);
        openIs("not even", Due.made("b09e", "e"), 0, NONE, NONE);
        openIs("not in the bag", Due.made("b09c", "abdefgh"), 0, NONE, NONE);
        openIs("torn, and alone", Due.made("b09c", "C"), 0, NONE, NONE);
        openIs("torn, and never together", Due.made("b04c;d49c", "C"), 0, NONE, NONE);
        openIs("torn, and together at one stop", Due.made("b05c;d49c", "C"), 0, 1, 16);
        openIs("never on board", Due.made("b55c", "c"), 0, NONE, NONE);
        openIs("boards at 9", Due.made("b99c", "c"), 0, NONE, NONE);
    }

    private static void leastEven() {
        Due.sentence("LEAST: the least EVEN (0 to 9) by which most are SERVED behind DAY 9: which; how many.");
        AfternoonChange x = Due.made("b09c", "c");
        x.worth(1, 0);
        for (int c = 0; c < 10; c++) {
            x.worth(2, c);
            Due.is("by " + c, x.least(0), c);
            Due.is("by " + c + ", how many", x.least(1), 1);
        }
        Due.is("its own stays", x.set(0, 9), 2);
        Due.is("in place of its own", x.least(0), 9);
        x.wipe(1);
        Due.is("none is served", x.least(0), 0);
        Due.is("none is served, how many", x.least(1), 0);
    }

    private static void mostAreServed() {
        Due.sentence("by which most are SERVED behind DAY 9");
        leastIs("no riders", new AfternoonChange(), 0, 0);
        leastIs("all have theirs", Due.made("a00a;b00b;c00c;d00d;e00e;f00f;g00g;h00h", ""), 0, 8);
        leastIs("one of two by 1, both by 3", Due.made("b09c;b09e", "ce"), 3, 2);
        leastIs("two by 2, fewer by more", Due.made("b09e;d09e;f09d", "e"), 2, 2);
        leastIs("on day 7", Due.made(SLOW, "a"), 1, 8);
        leastIs("all left theirs", Due.made("b09c;b09c", "cc", 2, 32, 3), 0, 0);
        leastIs("a torn one", Due.made("b09e;c09e", "E"), 3, 2);
    }

    private static void leastIs(String call, AfternoonChange x, int which, int many) {
        Due.is(call + ", which", x.least(0), which);
        Due.is(call + ", how many", x.least(1), many);
    }

    private static void topIs(String call, AfternoonChange x, int which, int many) {
        Due.is(call + ", which", x.top(0), which);
        Due.is(call + ", how many", x.top(1), many);
    }

    private static void top() {
        Due.sentence("TOP: a whole AFTERNOON more (0 to 7) on the top of THE BAG");
        topIs("a Monday", Due.made("b09a", ""), 0, 1);
        topIs("an h", Due.made("g09h", ""), 7, 1);
        topIs("one whole one serves one", Due.made("b09c;b09c", ""), 2, 1);
        topIs("a torn Monday would serve two", Due.made("b09a;c09a", ""), 0, 1);
        topIs("a whole one beside a torn one serves the third", Due.made("b09c;b09c;b09c", "C"), 2, 3);
        AfternoonChange x = Due.made("b09c", "");
        topIs("the bag is told anew", x, 2, 1);
        Due.is("it is not told", x.bag(9, NONE), 0);
        Due.is("nobody has it", x.has(9, 0), 1);
        topIs("behind day 9", Due.made(SLOW, ""), 0, 8);
        topIs("all left theirs", Due.made("b09c", "", 2, 32, 1), 0, 0);
    }

    private static void topOfAFullBag() {
        Due.sentence("(whatever room there is)");
        AfternoonChange x = Due.made("b09c", "AAAAAAAAAAAAAAAA");
        topIs("a seventeenth", x, 2, 1);
        Due.is("the text is still full", x.type(1, 'c'), -4);
        Due.is("the bag has as many as before", x.bag(0, NONE), 16);
        x = Due.made("b09c;b09c;d09e;d09e;e09f;e09f;f09g;f09h", "AAAAAAAAAAAAACEF");
        topIs("a seventeenth, and three pairs", x, 6, 7);
        x = Due.made("g89h;b09c;b09c;d09e;d09e;e09f;e09f;h06a", "AAAAAAAAAAAAACEF", 2, 32 + 256, 128);
        // the eighth one's h serves the first one without more; nothing more helps
        topIs("none helps", x, 0, 7);
    }

    private static void topOfLikeOnes() {
        Due.sentence("by which most are SERVED behind DAY 9, of like ones the least: which; how many.");
        topIs("no riders", new AfternoonChange(), 0, 0);
        topIs("none helps", Due.made("c09c", ""), 0, 1);
        topIs("two alike", Due.made("g09h;b09c", ""), 2, 1);
        // the f brings the h along
        topIs("one is better", Due.made("b09c;g09h;g09h;h09f", ""), 5, 2);
        topIs("all eight", Due.made("a00a;b00b;c00c;d00d;e00e;f00f;g00g;b09h", "", 9, 32, 0), 7, 8);
    }

    private static void open() {
        Due.sentence("OPEN: how many (what = 0), as bits (1); NONE. BAD.");
        AfternoonChange x = Due.made("b09c;b09d", "c");
        openIs("the first", x, 0, 1, 1);
        openIs("the last", x, 1, NONE, NONE);
        Due.is("rider -1", x.open(-1, 0), BAD);
        Due.is("rider 2", x.open(2, 0), BAD);
        Due.is("what = -1", x.open(0, -1), BAD);
        Due.is("what = 2", x.open(0, 2), BAD);
        Due.is("what = 2 of one who never gets his", x.open(1, 2), BAD);
        for (int far : FAR) {
            Due.is("a far rider", x.open(far, 0), BAD);
            Due.is("a far what", x.open(0, far), BAD);
        }
        Due.is("no riders", new AfternoonChange().open(0, 0), BAD);
        openIs("the eighth", Due.made(SLOW, "a"), 7, 1, 1);
        Due.is("a ninth", Due.made(SLOW, "a").open(8, 0), BAD);
    }

    private static void least() {
        Due.sentence("LEAST: which (what = 0), how many (1). BAD.");
        AfternoonChange[] both = {new AfternoonChange(), Due.made("b09c", "c")};
        for (AfternoonChange x : both) {
            Due.is("what = -1", x.least(-1), BAD);
            Due.is("what = 2", x.least(2), BAD);
            for (int far : FAR) {
                Due.is("a far what", x.least(far), BAD);
            }
        }
        leastIs("one", both[1], 1, 1);
    }

    private static void topWhat() {
        Due.sentence("TOP: which (what = 0), how many (1). BAD.");
        AfternoonChange[] both = {new AfternoonChange(), Due.made("b09c", "")};
        for (AfternoonChange x : both) {
            Due.is("what = -1", x.top(-1), BAD);
            Due.is("what = 2", x.top(2), BAD);
            for (int far : FAR) {
                Due.is("a far what", x.top(far), BAD);
            }
        }
        topIs("one", both[1], 2, 1);
    }
}
