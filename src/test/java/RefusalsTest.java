/** The document's paragraph on refusals: which one it is, and that nothing changes, for every act that may be refused. */
public final class RefusalsTest {
    private static final int BAD = -2, NOT = -3, FULL = -4;
    private static final int NULL = -11, INDEX = -12, CAST = -13, STORE = -14, SIZE = -15;
    private static final int LEAST = Integer.MIN_VALUE, MOST = Integer.MAX_VALUE;
    private static final long LONG_BAD = Long.MIN_VALUE + 2;

    private interface Call {
        long on(AfternoonChange x);
    }

    private interface Made {
        AfternoonChange anew();
    }

    public static void main(String[] args) {
        badOfTexts();
        badOfDays();
        badOfPlans();
        badOfSeen();
        badOfSheets();
        notAndFull();
        findings();
        order();
        longs();
        Due.end("RefusalsTest");
    }

    /** Something of all that can be told, neither empty nor full; the latest finding is 2; sheet 3 is lost. */
    private static AfternoonChange some() {
        AfternoonChange x = Due.made("b09c;c09d;d09c", "dCh", 3, 33, 2);
        x.worth(7, 0);
        x.seen(0, 0, 2);
        x.seen(9, 1, 8);
        Due.lay(x, 0, 0, 1, 2, 3, 4);
        Due.lay(x, 1, 1, 300, 2);
        Due.lay(x, 2, 2, 100000, 2, 9);
        x.lay(0, 0, 4, 0);
        return x;
    }

    /** As full as can be. */
    private static AfternoonChange full() {
        AfternoonChange x = Due.made("b09c;b09c;d09e;d09e;e09f;e09f;f09g;f09g", "CEFGAAAAAAAAAAAA", 9, 1023, 255);
        for (int n = 0; n < 8; n++) {
            x.seen(0, n, 8);
        }
        x.sheet(0, 0, 60);
        x.lay(0, 0, 60, 0);
        return x;
    }

    /** Nothing but a finding. */
    private static AfternoonChange empty() {
        AfternoonChange x = new AfternoonChange();
        x.sheet(0, 0, 0);
        x.lay(0, 0, 0, 0);
        x.lose(0);
        x.sheet(0, 0, 0);
        x.lay(0, 0, 0, 0);
        return x;
    }

    /** The call is refused so, and behind it the object is as one that was not asked. */
    private static void refused(String name, Made made, long due, Call call) {
        AfternoonChange x = made.anew();
        AfternoonChange twin = made.anew();
        Due.is(name, call.on(x), due);
        boolean isFinding = due <= NULL && due >= SIZE;
        Due.is(name + ", then count(8)", x.count(8), isFinding ? -10 - due : twin.count(8));
        same(name, x, twin);
    }

    private static void same(String name, AfternoonChange x, AfternoonChange twin) {
        long[] got = Everything.of(x);
        long[] want = Everything.of(twin);
        Due.is(name + ", then all answers", got.length, want.length);
        for (int i = 0; i < Math.min(got.length, want.length); i++) {
            Due.is(name + ", then answer " + i, got[i], want[i]);
        }
    }

    private static void bad(String name, Call call) {
        refused(name, RefusalsTest::some, BAD, call);
        refused(name + " of a full one", RefusalsTest::full, BAD, call);
        refused(name + " of an empty one", RefusalsTest::empty, BAD, call);
    }

    /** Numbers that are neither texts, nor days, nor riders, nor sheets, nor anything else that is told by a number. */
    private static final int[] WRONG = {-2, 1024, LEAST, MOST};

    private static void badOfTexts() {
        Due.sentence("BAD -2 (a number not as told, no such thing) .. They change nothing");
        for (int n : WRONG) {
            bad("type(" + n + ", 97)", x -> x.type(n, 97));
            bad("type(0, " + n + ")", x -> x.type(0, n));
            bad("type(1, " + n + ")", x -> x.type(1, n));
            bad("wipe(" + n + ")", x -> x.wipe(n));
            bad("undo(" + n + ")", x -> x.undo(n));
            bad("fault(" + n + ")", x -> x.fault(n));
            bad("rider(" + n + ", 0)", x -> x.rider(n, 0));
            bad("rider(0, " + n + ")", x -> x.rider(0, n));
            bad("worth(" + n + ", 5)", x -> x.worth(n, 5));
            bad("worth(0, " + n + ")", x -> x.worth(0, n));
            bad("set(" + n + ", 5)", x -> x.set(n, 5));
            for (int what = 0; what < 3; what++) {
                int w = what;
                bad("set(" + w + ", " + n + ")", x -> x.set(w, n));
            }
        }
        bad("type(2, 97)", x -> x.type(2, 97));
        bad("type(-1, 97)", x -> x.type(-1, 97));
        bad("type(0, 256)", x -> x.type(0, 256));
        bad("type(1, -1)", x -> x.type(1, -1));
        bad("wipe(2)", x -> x.wipe(2));
        bad("wipe(-1)", x -> x.wipe(-1));
        bad("undo(2)", x -> x.undo(2));
        bad("undo(-1)", x -> x.undo(-1));
        bad("worth(8, 5)", x -> x.worth(8, 5));
        bad("worth(0, 10)", x -> x.worth(0, 10));
        bad("set(3, 0)", x -> x.set(3, 0));
        bad("set(0, 10)", x -> x.set(0, 10));
        bad("set(2, 256)", x -> x.set(2, 256));
    }

    private static void badOfDays() {
        Due.sentence("BAD -2 (a number not as told, no such thing) .. They change nothing");
        for (int n : WRONG) {
            bad("has(" + n + ", 0)", x -> x.has(n, 0));
            bad("has(0, " + n + ")", x -> x.has(0, n));
            bad("torn(" + n + ", 0)", x -> x.torn(n, 0));
            bad("torn(0, " + n + ")", x -> x.torn(0, n));
            bad("bag(" + n + ", 0)", x -> x.bag(n, 0));
            bad("bag(0, " + n + ")", x -> x.bag(0, n));
            bad("gets(" + n + ")", x -> x.gets(n));
            bad("first(" + n + ")", x -> x.first(n));
            bad("served(" + n + ")", x -> x.served(n));
            bad("rings(" + n + ")", x -> x.rings(n));
        }
    }

    private static void badOfPlans() {
        Due.sentence("BAD -2 (a number not as told, no such thing) .. They change nothing");
        for (int n : WRONG) {
            bad("open(" + n + ", 0)", x -> x.open(n, 0));
            bad("open(0, " + n + ")", x -> x.open(0, n));
            bad("least(" + n + ")", x -> x.least(n));
            bad("top(" + n + ")", x -> x.top(n));
        }
    }

    private static void badOfSeen() {
        Due.sentence("BAD -2 (a number not as told, no such thing) .. They change nothing");
        for (int n : WRONG) {
            bad("seen(" + n + ", 0, 0)", x -> x.seen(n, 0, 0));
            bad("seen(0, " + n + ", 0)", x -> x.seen(0, n, 0));
            bad("seen(0, 0, " + n + ")", x -> x.seen(0, 0, n));
            bad("read(" + n + ")", x -> x.read(n));
            bad("had(" + n + ")", x -> x.had(n));
            bad("ask(" + n + ")", x -> x.ask(n));
            bad("depot(7, " + n + ", 0)", x -> x.depot(7, n, 0));
            bad("depot(7, 9, " + n + ")", x -> x.depot(7, 9, n));
        }
        bad("seen(10, 0, 0)", x -> x.seen(10, 0, 0));
        bad("seen(0, 8, 0)", x -> x.seen(0, 8, 0));
        bad("seen(0, 0, 9)", x -> x.seen(0, 0, 9));
        bad("read(4)", x -> x.read(4));
    }

    private static void badOfSheets() {
        Due.sentence("BAD -2 (a number not as told, no such thing) .. They change nothing");
        for (int n : WRONG) {
            bad("sheet(" + n + ", 0, 1)", x -> x.sheet(n, 0, 1));
            bad("sheet(0, " + n + ", 1)", x -> x.sheet(0, n, 1));
            bad("lose(" + n + ")", x -> x.lose(n));
            bad("lay(" + n + ", 0, 0, 9)", x -> x.lay(n, 0, 0, 9));
            bad("lay(0, " + n + ", 0, 9)", x -> x.lay(0, n, 0, 9));
            bad("copy(" + n + ", 0, 0, 0, 1)", x -> x.copy(n, 0, 0, 0, 1));
            bad("copy(0, 0, " + n + ", 0, 1)", x -> x.copy(0, 0, n, 0, 1));
            bad("write(" + n + ", 0)", x -> x.write(n, 0));
            bad("write(0, " + n + ")", x -> x.write(0, n));
            bad("count(" + n + ")", x -> x.count(n));
            refused("get(" + n + ", 0, 0)", RefusalsTest::some, LEAST, x -> x.get(n, 0, 0));
            refused("get(0, " + n + ", 0)", RefusalsTest::some, LEAST, x -> x.get(0, n, 0));
        }
        bad("sheet(0, 0, 61)", x -> x.sheet(0, 0, 61));
        bad("sheet(4, 0, 1)", x -> x.sheet(4, 0, 1));
        bad("sheet(0, 3, 1)", x -> x.sheet(0, 3, 1));
        bad("lay(0, 3, 0, 9)", x -> x.lay(0, 3, 0, 9));
        bad("write(10, 0)", x -> x.write(10, 0));
    }

    private static void notAndFull() {
        Due.sentence("NOT -3 (as told), FULL -4 .. They change nothing");
        for (int text = 0; text < 2; text++) {
            int t = text;
            refused("undo(" + t + ") of none", RefusalsTest::empty, NOT, x -> x.undo(t));
            for (int b = 0; b < 256; b += 5) {
                int each = b;
                refused("type(" + t + ", " + b + ") behind a full one", RefusalsTest::full, FULL, x -> x.type(t, each));
            }
        }
        refused("seen(0, 0, 8) behind eight", RefusalsTest::full, FULL, x -> x.seen(0, 0, 8));
        refused("seen(9, 7, 0) behind eight", RefusalsTest::full, FULL, x -> x.seen(9, 7, 0));
    }

    private static void findings() {
        Due.sentence("They change nothing (FINDINGS but count() 8).");
        refused("lose(3)", RefusalsTest::some, NULL, x -> x.lose(3));
        refused("read(3)", RefusalsTest::some, NULL, x -> x.read(3));
        refused("write(0, 3)", RefusalsTest::some, NULL, x -> x.write(0, 3));
        refused("lay(3, 0, 0, 9)", RefusalsTest::some, NULL, x -> x.lay(3, 0, 0, 9));
        refused("copy(3, 0, 0, 0, 1)", RefusalsTest::some, NULL, x -> x.copy(3, 0, 0, 0, 1));
        refused("copy(0, 0, 3, 0, 1)", RefusalsTest::some, NULL, x -> x.copy(0, 0, 3, 0, 1));
        refused("lay(0, 1, 0, 9)", RefusalsTest::some, CAST, x -> x.lay(0, 1, 0, 9));
        refused("lay(2, 0, 0, 9)", RefusalsTest::some, CAST, x -> x.lay(2, 0, 0, 9));
        refused("lay(1, 1, 2, 9)", RefusalsTest::some, INDEX, x -> x.lay(1, 1, 2, 9));
        refused("lay(1, 1, -1, 9)", RefusalsTest::some, INDEX, x -> x.lay(1, 1, -1, 9));
        refused("lay(0, 0, 60, 9)", RefusalsTest::full, INDEX, x -> x.lay(0, 0, 60, 9));
        refused("copy(0, 0, 1, 0, 1)", RefusalsTest::some, STORE, x -> x.copy(0, 0, 1, 0, 1));
        refused("copy(2, 0, 1, 0, 1)", RefusalsTest::some, STORE, x -> x.copy(2, 0, 1, 0, 1));
        refused("copy(0, 2, 0, 0, 3)", RefusalsTest::some, INDEX, x -> x.copy(0, 2, 0, 0, 3));
        refused("copy(0, 0, 0, 2, 3)", RefusalsTest::some, INDEX, x -> x.copy(0, 0, 0, 2, 3));
        refused("copy(0, 0, 0, 1, -1)", RefusalsTest::some, INDEX, x -> x.copy(0, 0, 0, 1, -1));
        refused("sheet(0, 0, -1)", RefusalsTest::some, SIZE, x -> x.sheet(0, 0, -1));
        refused("sheet(3, 2, -1)", RefusalsTest::some, SIZE, x -> x.sheet(3, 2, -1));
        foundByGet("get(3, 0, 0)", 1, x -> x.get(3, 0, 0));
        foundByGet("get(1, 0, 0)", 3, x -> x.get(1, 0, 0));
        foundByGet("get(1, 1, 2)", 2, x -> x.get(1, 1, 2));
    }

    private static void foundByGet(String name, int number, Call call) {
        AfternoonChange x = some();
        // another finding before it, so that the number it tells is its own
        x.sheet(0, 0, -1);
        Due.is(name, call.on(x), LEAST);
        Due.is(name + ", then count(8)", x.count(8), number);
        same(name, x, some());
    }

    private static void order() {
        Due.sentence("Refusals, the first that fits, in the order told at each act");
        refused("type: bad, full", RefusalsTest::full, BAD, x -> x.type(0, 256));
        refused("undo: bad, not", RefusalsTest::empty, BAD, x -> x.undo(2));
        refused("seen: bad, full", RefusalsTest::full, BAD, x -> x.seen(0, 0, 9));
        refused("sheet: bad, size", RefusalsTest::some, BAD, x -> x.sheet(4, 0, -1));
        refused("sheet: a bad form, size", RefusalsTest::some, BAD, x -> x.sheet(0, 3, -1));
        refused("write: a bad day, null", RefusalsTest::some, BAD, x -> x.write(10, 3));
        refused("lay: bad, null, index", RefusalsTest::some, BAD, x -> x.lay(3, 3, -1, 9));
        refused("lay: null, index", RefusalsTest::some, NULL, x -> x.lay(3, 0, -1, 9));
        refused("lay: cast, index", RefusalsTest::some, CAST, x -> x.lay(0, 1, 4, 9));
        refused("copy: bad, null, index", RefusalsTest::some, BAD, x -> x.copy(3, -1, 4, -1, -1));
        refused("copy: null, index", RefusalsTest::some, NULL, x -> x.copy(3, -1, 0, -1, -1));
        refused("copy: null of t, index", RefusalsTest::some, NULL, x -> x.copy(0, -1, 3, -1, -1));
        refused("copy: store, index", RefusalsTest::some, STORE, x -> x.copy(0, -1, 1, -1, -1));
        foundByGet("get: null, index", 1, x -> x.get(3, 2, -1));
        foundByGet("get: cast, index", 3, x -> x.get(0, 1, 4));
        refused("get: bad, null", RefusalsTest::some, LEAST, x -> x.get(3, 3, -1));
    }

    private static void longs() {
        Due.sentence("Where the answer is a long, a refusal -x is the least long and x more.");
        Made[] all = {RefusalsTest::some, RefusalsTest::full, RefusalsTest::empty};
        for (Made made : all) {
            for (int n : new int[] {-1, 17, LEAST, MOST}) {
                refused("maybe(" + n + ", 0, 0, 0)", made, LONG_BAD, x -> x.maybe(n, 0, 0, 0));
                refused("maybe(0, " + n + ", 0, 0)", made, LONG_BAD, x -> x.maybe(0, n, 0, 0));
                refused("maybe(0, 0, " + n + ", 0)", made, LONG_BAD, x -> x.maybe(0, 0, n, 0));
                refused("maybe(0, 0, 0, " + n + ")", made, LONG_BAD, x -> x.maybe(0, 0, 0, n));
            }
        }
    }
}
