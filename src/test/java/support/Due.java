/** Counts answers that are not the ones due, and tells texts to an object. */
final class Due {
    private static int checked = 0;
    private static int wrong = 0;
    /** The words of the document that the checks below are about. */
    private static String sentence = "";

    private Due() {
    }

    /** What follows tests these words of the document. */
    static void sentence(String words) {
        sentence = "\"" + words + "\": ";
    }

    static void is(String call, long got, long want) {
        checked++;
        if (got != want) {
            wrong++;
            System.out.println(sentence + call + " answered " + got + ", due is " + want);
        }
    }

    /** Answers from one index on, in a row. */
    static void row(String call, int[] got, int... want) {
        is(call + " length", got.length, want.length);
        for (int i = 0; i < Math.min(got.length, want.length); i++) {
            is(call + " [" + i + "]", got[i], want[i]);
        }
    }

    static void holds(String what, boolean holds) {
        is(what, holds ? 1 : 0, 1);
    }

    static AfternoonChange made(String riders, String bag) {
        AfternoonChange x = new AfternoonChange();
        type(x, 0, riders);
        type(x, 1, bag);
        return x;
    }

    /** With EVEN, CHANGES and FORGETS as told. */
    static AfternoonChange made(String riders, String bag, int even, int changes, int forgets) {
        AfternoonChange x = made(riders, bag);
        x.set(0, even);
        x.set(1, changes);
        x.set(2, forgets);
        return x;
    }

    static void type(AfternoonChange x, int text, String s) {
        for (int i = 0; i < s.length(); i++) {
            x.type(text, s.charAt(i));
        }
    }

    static int[] bagOf(AfternoonChange x, int day) {
        int[] row = new int[x.bag(day, -1)];
        for (int i = 0; i < row.length; i++) {
            row[i] = x.bag(day, i);
        }
        return row;
    }

    /** What each of the first riders has behind a day. */
    static int[] hadBy(AfternoonChange x, int day, int riders) {
        int[] row = new int[riders];
        for (int r = 0; r < riders; r++) {
            row[r] = x.has(day, r);
        }
        return row;
    }

    static int[] itemsOf(AfternoonChange x, int s, int form, int n) {
        int[] row = new int[n];
        for (int i = 0; i < n; i++) {
            row[i] = x.get(s, form, i);
        }
        return row;
    }

    /** Lays a new sheet with these items. */
    static void lay(AfternoonChange x, int s, int form, int... items) {
        x.sheet(s, form, items.length);
        for (int i = 0; i < items.length; i++) {
            x.lay(s, form, i, items[i]);
        }
    }

    static void end(String test) {
        System.out.println(test + ": " + checked + " checks, " + wrong + " wrong");
        if (wrong != 0) {
            System.exit(1);
        }
    }
}
