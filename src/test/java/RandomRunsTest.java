import java.util.Random;

/** Runs of calls by fixed seeds, each answer beside that of the plain model; 512 calls at most to an object. */
public final class RandomRunsTest {
    private static final String[] LETTERS = {"abcdefgh", "bcd", "cdef", "gh"};

    private final Random random;
    private final AfternoonChange x = new AfternoonChange();
    private final PlainChange y = new PlainChange();
    private final int run;
    private int calls = 0;

    private RandomRunsTest(int run) {
        this.run = run;
        random = new Random(run);
    }

    public static void main(String[] args) {
        for (int run = 1; run <= 240; run++) {
            new RandomRunsTest(run).go();
        }
        slowRun();
        Due.end("RandomRunsTest");
    }

    /** By chance no run has changes on many days, so that all days of digest() differ: this one has. */
    private static void slowRun() {
        RandomRunsTest slow = new RandomRunsTest(0);
        for (char c : "g09h;h09g;g09f;f09e;e09d;d09c;c09b;b09a".toCharArray()) {
            slow.type(0, c);
        }
        slow.type(1, 'a');
        slow.same("digest()", slow.x.digest(), slow.y.digest());
        slow.same("set(1, 97)", slow.x.set(1, 97), slow.y.set(1, 97));
        slow.same("digest()", slow.x.digest(), slow.y.digest());
    }

    private void same(String call, long got, long want) {
        calls++;
        Due.is("run " + run + ", call " + calls + ": " + call, got, want);
    }

    /** From one below the range to one above it, mostly inside. */
    private int about(int low, int high) {
        return random.nextInt(12) == 0 ? (random.nextBoolean() ? low - 1 : high + 1) : low + random.nextInt(high - low + 1);
    }

    private int wild() {
        int[] some = {Integer.MIN_VALUE, Integer.MAX_VALUE, -1, 61, 1000, 255};
        return some[random.nextInt(some.length)];
    }

    private void go() {
        tellTexts();
        while (calls < 400) {
            int kind = random.nextInt(100);
            if (kind < 12) {
                tell();
            } else if (kind < 50) {
                askDays();
            } else if (kind < 72) {
                askPlans();
            } else {
                useSheets();
            }
        }
        if (run % 6 == 0) {
            same("digest()", x.digest(), y.digest());
        }
    }

    private void type(int text, int b) {
        same("type(" + text + ", " + b + ")", x.type(text, b), y.type(text, b));
    }

    private void tellTexts() {
        String letters = LETTERS[random.nextInt(LETTERS.length)];
        int riders = random.nextInt(9);
        for (int r = 0; r < riders && calls < 450; r++) {
            if (r > 0) {
                type(0, ';');
            }
            type(0, letters.charAt(random.nextInt(letters.length())));
            type(0, '0' + (random.nextInt(3) == 0 ? random.nextInt(10) : random.nextInt(3)));
            type(0, '0' + (random.nextInt(3) == 0 ? random.nextInt(10) : 9 - random.nextInt(5)));
            type(0, letters.charAt(random.nextInt(letters.length())));
        }
        int bag = random.nextInt(17);
        for (int i = 0; i < bag; i++) {
            char c = letters.charAt(random.nextInt(letters.length()));
            type(1, random.nextInt(3) < run % 4 ? Character.toUpperCase(c) : c);
        }
    }

    private void tell() {
        int a;
        int b;
        switch (random.nextInt(8)) {
            case 0 -> type(about(0, 1), random.nextInt(4) == 0 ? about(0, 255) : "abh09;AHi@".charAt(random.nextInt(10)));
            case 1 -> {
                a = about(0, 1);
                same("undo(" + a + ")", x.undo(a), y.undo(a));
            }
            case 2 -> {
                if (calls < 300) {
                    a = about(0, 1);
                    same("wipe(" + a + ")", x.wipe(a), y.wipe(a));
                    same("wipe(0)", x.wipe(0), y.wipe(0));
                    same("wipe(1)", x.wipe(1), y.wipe(1));
                    tellTexts();
                }
            }
            case 3, 4 -> {
                a = about(0, 7);
                b = about(0, 9);
                same("worth(" + a + ", " + b + ")", x.worth(a, b), y.worth(a, b));
            }
            case 5 -> {
                a = about(0, 9);
                same("set(0, " + a + ")", x.set(0, a), y.set(0, a));
            }
            case 6 -> {
                a = random.nextInt(20) == 0 ? about(1023, 1023) : 1 << random.nextInt(10) | 1 << random.nextInt(10);
                same("set(1, " + a + ")", x.set(1, a), y.set(1, a));
            }
            default -> {
                a = random.nextInt(3) == 0 ? about(0, 255) : 1 << random.nextInt(8);
                b = about(2, 2);
                same("set(" + b + ", " + a + ")", x.set(b, a), y.set(b, a));
            }
        }
    }

    private void askDays() {
        int a = about(0, 9);
        int b = about(0, 7);
        int c = about(0, 2);
        switch (random.nextInt(12)) {
            case 0 -> same("fault(" + c + ")", x.fault(c), y.fault(c));
            case 1 -> same("rider(" + b + ", " + c + ")", x.rider(b, c), y.rider(b, c));
            case 2, 3 -> same("has(" + a + ", " + b + ")", x.has(a, b), y.has(a, b));
            case 4 -> same("torn(" + a + ", " + b + ")", x.torn(a, b), y.torn(a, b));
            case 5 -> {
                int i = about(-1, 27);
                same("bag(" + a + ", " + i + ")", x.bag(a, i), y.bag(a, i));
            }
            case 6 -> same("gets(" + b + ")", x.gets(b), y.gets(b));
            case 7 -> same("first(" + c + ")", x.first(c), y.first(c));
            case 8 -> same("still()", x.still(), y.still());
            case 9 -> same("served(" + a + ")", x.served(a), y.served(a));
            case 10 -> same("rings(" + c + ")", x.rings(c), y.rings(c));
            default -> {
                int what = about(0, 8);
                same("count(" + what + ")", x.count(what), y.count(what));
            }
        }
    }

    private void askPlans() {
        int a = about(0, 9);
        int b = about(0, 7);
        int c = about(0, 1);
        switch (random.nextInt(10)) {
            case 0 -> same("open(" + b + ", " + c + ")", x.open(b, c), y.open(b, c));
            case 1 -> same("least(" + c + ")", x.least(c), y.least(c));
            case 2 -> same("top(" + c + ")", x.top(c), y.top(c));
            case 3 -> {
                // what comes out as told is seen most, so that had() and was() have something to say
                int afternoon = random.nextInt(3) == 0 ? about(0, 8) : y.has(a, b) == -1 ? 8 : y.has(a, b);
                same("seen(" + a + ", " + b + ", " + afternoon + ")", x.seen(a, b, afternoon), y.seen(a, b, afternoon));
            }
            case 4 -> {
                if (random.nextInt(2) == 0) {
                    same("forget()", x.forget(), y.forget());
                }
            }
            case 5 -> same("had(" + b + ")", x.had(b), y.had(b));
            case 6 -> same("was()", x.was(), y.was());
            case 7 -> same("ask(" + a + ")", x.ask(a), y.ask(a));
            case 8 -> {
                int chance = about(0, 16);
                String call = "maybe(" + chance + ", " + a + ", " + b + ", " + c + ")";
                same(call, x.maybe(chance, a, b, c), y.maybe(chance, a, b, c));
            }
            default -> {
                int seed = random.nextInt();
                int n = about(0, 16);
                same("depot(" + seed + ", " + n + ", " + c + ")", x.depot(seed, n, c), y.depot(seed, n, c));
            }
        }
    }

    private void useSheets() {
        int s = about(0, 3);
        int t = about(0, 3);
        int form = random.nextInt(3) == 0 ? about(0, 2) : 1;
        int i = random.nextInt(30) == 0 ? wild() : about(0, 8);
        int j = random.nextInt(30) == 0 ? wild() : about(0, 5);
        switch (random.nextInt(10)) {
            case 0 -> {
                int n = random.nextInt(3) == 0 ? about(0, 60) : about(0, 12);
                same("sheet(" + s + ", " + form + ", " + n + ")", x.sheet(s, form, n), y.sheet(s, form, n));
            }
            case 1 -> {
                if (random.nextInt(3) == 0) {
                    same("lose(" + s + ")", x.lose(s), y.lose(s));
                }
            }
            case 2, 3, 4 -> {
                int v = random.nextInt(4) == 0 ? random.nextInt() : about(0, 8);
                same("lay(" + s + ", " + form + ", " + i + ", " + v + ")", x.lay(s, form, i, v), y.lay(s, form, i, v));
            }
            case 5, 6 -> same("get(" + s + ", " + form + ", " + i + ")", x.get(s, form, i), y.get(s, form, i));
            case 7 -> {
                int n = random.nextInt(30) == 0 ? wild() : about(0, 4);
                String call = "copy(" + s + ", " + i + ", " + t + ", " + j + ", " + n + ")";
                same(call, x.copy(s, i, t, j, n), y.copy(s, i, t, j, n));
            }
            case 8 -> same("write(" + t + ", " + s + ")", x.write(t, s), y.write(t, s));
            default -> same("read(" + s + ")", x.read(s), y.read(s));
        }
        same("count(8)", x.count(8), y.count(8));
    }
}
