/** The edges that the document names for texts, worth, EVEN, CHANGES and FORGETS (promises 1 to 8): a test for each sentence. */
public final class EdgesOfTextsTest {
    private static final int NONE = -1, BAD = -2, NOT = -3, FULL = -4, NULL = -11;
    private static final int[] FAR = {Integer.MIN_VALUE, Integer.MAX_VALUE};
    private static final String EIGHT = "a01b;b12c;c23d;d34e;e45f;f56g;g67h;h78a";
    private static final String SIXTEEN = "abcdefghABCDEFGH";

    public static void main(String[] args) {
        afternoons();
        calls512();
        newObject();
        ridersText();
        eightAtMost();
        everyByteOfARider();
        bagText();
        everyByteOfABag();
        firstByteOfMany();
        emptyIsWell();
        notEnded();
        ninth();
        ridersAsIfEmpty();
        bagAsIfEmpty();
        worthAtFirst();
        evenAtFirst();
        changesAtFirst();
        forgetsAtFirst();
        type();
        wipe();
        undo();
        fault();
        rider();
        worth();
        set();
        Due.end("EdgesOfTextsTest");
    }

    private static void afternoons() {
        Due.sentence("AFTERNOONS are a to h (0 to 7); a (0) is a MONDAY.");
        AfternoonChange x = Due.made("a00h;h00a", "ahAH");
        Due.is("rider(0, 0)", x.rider(0, 0), 0);
        Due.is("rider(0, 3)", x.rider(0, 3), 7);
        Due.is("rider(1, 0)", x.rider(1, 0), 7);
        Due.is("rider(1, 3)", x.rider(1, 3), 0);
        Due.row("the bag", Due.bagOf(x, 0), 0, 7, 8, 15);
        Due.is("a Monday stays", Due.made("a09b", "b").has(9, 0), 0);
        Due.is("b is none", Due.made("b09c", "c").has(9, 0), 2);
        Due.is("h is none", Due.made("h09g", "g").has(9, 0), 6);
    }

    private static void calls512() {
        Due.sentence("An object is used for at most 512 calls after it has been made");
        AfternoonChange x = new AfternoonChange();
        for (int call = 1; call <= 510; call++) {
            boolean odd = call % 2 == 1;
            Due.is("call " + call, odd ? x.type(1, 'c') : x.undo(1), odd ? 1 : 0);
        }
        Due.is("call 511", x.digest(), new AfternoonChange().digest());
        Due.is("call 512", x.type(0, 'b'), 1);
    }

    private static void newObject() {
        Due.sentence("No RIDERS, nothing in THE BAG; all SHEETS are LOST.");
        AfternoonChange x = new AfternoonChange();
        Due.is("riders", x.count(0), 0);
        Due.is("in the bag", x.count(1), 0);
        Due.is("in the bag behind day 0", x.bag(0, NONE), 0);
        Due.is("on top of it", x.bag(0, 0), NONE);
        for (int s = 0; s < 4; s++) {
            Due.is("lose(" + s + ")", x.lose(s), NULL);
        }
        Due.made(EIGHT, SIXTEEN).sheet(0, 0, 60);
        Due.is("another one's riders", new AfternoonChange().count(0), 0);
        Due.is("another one's sheet", new AfternoonChange().lose(0), NULL);
    }

    private static void ridersText() {
        Due.sentence("RIDERS are a text of up to 39 bytes (text 0)");
        AfternoonChange x = new AfternoonChange();
        for (int n = 1; n <= 39; n++) {
            Due.is("byte " + n, x.type(0, EIGHT.charAt(n - 1)), n);
        }
        Due.is("byte 40", x.type(0, ';'), FULL);
        Due.is("bytes", x.count(2), 39);
        Due.is("undone", x.undo(0), 38);
        Due.is("room again", x.type(0, 'a'), 39);
        Due.is("no more", x.type(0, 'a'), FULL);
        Due.is("the other text is not full", x.type(1, 'a'), 1);
    }

    private static void eightAtMost() {
        Due.sentence("8 at most (0 on), with ; between them");
        AfternoonChange x = Due.made(EIGHT, "");
        Due.is("riders", x.count(0), 8);
        for (int r = 0; r < 8; r++) {
            Due.is("has " + r, x.rider(r, 0), r);
            Due.is("boards " + r, x.rider(r, 1), r);
            Due.is("leaves " + r, x.rider(r, 2), r + 1);
            Due.is("wants " + r, x.rider(r, 3), (r + 1) % 8);
        }
        Due.is("a ninth", x.rider(8, 0), BAD);
        Due.is("one ahead of the first", x.rider(-1, 0), BAD);
        Due.is("; ahead of the first", faultOf(0, ";b09c"), 0);
        Due.is("; twice", faultOf(0, "b09c;;b09c"), 5);
        Due.is("; at the end", faultOf(0, "b09c;"), 5);
        Due.is("none between", faultOf(0, "b09cb09c"), 4);
        Due.is("one", Due.made("b09c", "").count(0), 1);
        Due.is("two", Due.made("b09c;b09c", "").count(0), 2);
    }

    private static int faultOf(int text, String s) {
        AfternoonChange x = new AfternoonChange();
        Due.type(x, text, s);
        return x.fault(text);
    }

    private static void everyByteOfARider() {
        Due.sentence("a letter a to h, the AFTERNOON that it HAS, two figures, the STOP at which it boards, that at which "
            + "it leaves (0 to 9 each), and a letter a to h, what it WANTS.");
        String[] fit = {"abcdefgh", "0123456789", "0123456789", "abcdefgh", ";"};
        String start = "h90a;";
        for (int place = 0; place < 10; place++) {
            for (int b = 0; b < 256; b++) {
                String ahead = (start + start).substring(0, place);
                boolean fits = fit[place % 5].indexOf((char) b) >= 0;
                int due = !fits ? place : place % 5 == 3 ? NONE : place + 1;
                Due.is(b + " behind " + ahead, faultOf(0, ahead + (char) b), due);
            }
        }
    }

    private static void bagText() {
        Due.sentence("THE BAG is a text of up to 16 letters (text 1), from the top down");
        AfternoonChange x = new AfternoonChange();
        for (int n = 1; n <= 16; n++) {
            Due.is("letter " + n, x.type(1, SIXTEEN.charAt(n - 1)), n);
        }
        Due.is("letter 17", x.type(1, 'a'), FULL);
        Due.is("bytes", x.count(3), 16);
        Due.is("in the bag", x.count(1), 16);
        Due.is("the top", x.bag(0, 0), 0);
        Due.is("the bottom", x.bag(0, 15), 15);
        Due.is("undone", x.undo(1), 15);
        Due.is("room again", x.type(1, 'a'), 16);
        Due.is("no more", x.type(1, 'a'), FULL);
        Due.is("the other text is not full", x.type(0, 'a'), 1);
    }

    private static void everyByteOfABag() {
        Due.sentence("a to h (whole), A to H (torn).");
        for (int b = 0; b < 256; b++) {
            int kind = SIXTEEN.indexOf((char) b);
            AfternoonChange x = Due.made("", "" + (char) b);
            Due.is("fault of " + b, x.fault(1), kind < 0 ? 0 : NONE);
            Due.is("the top of " + b, x.bag(0, 0), kind);
            x = Due.made("", SIXTEEN.substring(1) + (char) b);
            Due.is("fault of " + b + " at the bottom", x.fault(1), kind < 0 ? 15 : NONE);
            Due.is("the bottom of " + b, x.bag(9, 15), kind);
        }
    }

    private static void firstByteOfMany() {
        Due.sentence("The FAULT of a text is the place of the first byte with which it cannot go on");
        Due.is("four wrong ones", faultOf(0, "xxxx"), 0);
        Due.is("two wrong ones", faultOf(0, "b0xx"), 2);
        Due.is("one, and well behind it", faultOf(0, "b09c,b09c"), 4);
        Due.is("the last of 39", faultOf(0, EIGHT.substring(0, 38) + "0"), 38);
        Due.is("two of the bag", faultOf(1, "aIIa"), 1);
        Due.is("the first of the bag", faultOf(1, ";a"), 0);
        Due.is("the last of 16", faultOf(1, SIXTEEN.substring(0, 15) + "0"), 15);
    }

    private static void emptyIsWell() {
        Due.sentence("(an empty one is well");
        AfternoonChange x = new AfternoonChange();
        for (int text = 0; text < 2; text++) {
            Due.is("at first", x.fault(text), NONE);
            x.type(text, 'x');
            Due.is("a wrong byte", x.fault(text), 0);
            x.undo(text);
            Due.is("undone", x.fault(text), NONE);
            x.type(text, 'x');
            x.wipe(text);
            Due.is("wiped", x.fault(text), NONE);
        }
    }

    private static void notEnded() {
        Due.sentence("of one that is not ended, its end)");
        AfternoonChange x = new AfternoonChange();
        for (int n = 1; n <= 39; n++) {
            x.type(0, EIGHT.charAt(n - 1));
            boolean ended = n % 5 == 4;
            Due.is("fault of " + n + " bytes", x.fault(0), ended ? NONE : n);
            Due.is("riders of " + n + " bytes", x.count(0), ended ? (n + 1) / 5 : 0);
        }
        x = new AfternoonChange();
        for (int n = 1; n <= 16; n++) {
            x.type(1, 'H');
            Due.is("a bag is always ended", x.fault(1), NONE);
        }
    }

    /** 39 bytes are full behind the eighth: not one byte of a ninth, nor the ; ahead of it, can come. */
    private static void ninth() {
        Due.sentence("here also of the first byte of a ninth.");
        AfternoonChange x = Due.made(EIGHT, "");
        for (int b = 0; b < 256; b++) {
            Due.is("byte " + b, x.type(0, b), FULL);
        }
        Due.is("fault", x.fault(0), NONE);
        Due.is("riders", x.count(0), 8);
    }

    private static void ridersAsIfEmpty() {
        Due.sentence("With a FAULT a text is as if it was empty.");
        AfternoonChange x = Due.made("b09c;c09d;d09b;", "cdb");
        x.sheet(0, 0, 4);
        x.seen(0, 0, 2);
        Due.is("riders", x.count(0), 0);
        Due.is("bytes", x.count(2), 15);
        int[] refused = {x.rider(0, 0), x.has(0, 0), x.torn(0, 0), x.gets(0), x.open(0, 0), x.had(0)};
        Due.row("no such rider", refused, BAD, BAD, BAD, BAD, BAD, BAD);
        Due.is("maybe", x.maybe(8, 0, 0, 0), Long.MIN_VALUE + 2);
        Due.row("the bag stays", Due.bagOf(x, 9), 2, 3, 1);
        Due.row("what is wanted of none", new int[] {x.served(9), x.count(4), x.count(5), x.first(0), x.still(), x.ask(0)},
            0, 0, 0, NONE, 0, NONE);
        Due.row("rings, plans", new int[] {x.rings(0), x.rings(1), x.least(0), x.least(1), x.top(0), x.top(1)},
            0, NONE, 0, 0, 0, 0);
        Due.is("what was seen of one that there is not", x.was(), 0);
        Due.is("depot", x.depot(7, 9, 0), 0);
        x.undo(0);
        Due.is("riders once it is mended", x.count(0), 3);
        Due.is("served once it is mended", x.served(9), 7);
        Due.is("rings once it is mended", x.rings(0), 1);
    }

    private static void bagAsIfEmpty() {
        Due.sentence("With a FAULT a text is as if it was empty.");
        AfternoonChange x = Due.made("b09c;d09c", "cCi");
        x.sheet(0, 0, 4);
        Due.is("in the bag", x.count(1), 0);
        Due.is("bytes", x.count(3), 3);
        Due.is("behind day 0", x.bag(0, NONE), 0);
        Due.is("on its top", x.bag(0, 0), NONE);
        Due.is("written", x.write(0, 0), 0);
        Due.is("changes", x.count(4), 0);
        Due.is("by one more on the top", x.top(0), 2);
        Due.is("by one more on the top, how many", x.top(1), 1);
        Due.is("riders stay", x.count(0), 2);
        x.undo(1);
        Due.is("in it once it is mended", x.count(1), 2);
        Due.is("changes once it is mended", x.count(4), 1);
    }

    private static void worthAtFirst() {
        Due.sentence("WORTH of an AFTERNOON (0 to 9; its number and 1 at first).");
        AfternoonChange x = new AfternoonChange();
        for (int a = 0; a < 8; a++) {
            Due.is("at first " + a, x.worth(a, 9), a + 1);
            Due.is("9 of " + a, x.worth(a, 0), 9);
            Due.is("0 of " + a, x.worth(a, 5), 0);
        }
        for (int a = 0; a < 8; a++) {
            Due.is("the others' stay", x.worth(a, a), 5);
        }
    }

    private static void evenAtFirst() {
        Due.sentence("EVEN (0 to 9; 2 at first).");
        Due.is("by 2", Due.made("b09d", "d").has(0, 0), 3);
        Due.is("by 3", Due.made("b09e", "e").has(0, 0), 1);
        AfternoonChange x = new AfternoonChange();
        Due.is("at first", x.set(0, 9), 2);
        Due.is("9", x.set(0, 0), 9);
        Due.is("0", x.set(0, 1), 0);
        Due.is("above it", x.set(0, 10), BAD);
        Due.is("below it", x.set(0, -1), BAD);
        Due.is("unchanged", x.set(0, 2), 1);
    }

    private static void changesAtFirst() {
        Due.sentence("CHANGES: STOPS at which one changes (bits of 0 to 9; that of 5 at first).");
        AfternoonChange x = Due.made("b09c", "c");
        Due.is("at first", x.count(6), 32);
        Due.is("the stop of the first", x.first(1), 5);
        for (int stop = 0; stop < 10; stop++) {
            x.set(1, 1 << stop);
            Due.is("bit " + stop, x.first(1), stop < 9 ? stop : NONE);
            Due.is("told " + stop, x.count(6), 1 << stop);
        }
        x.set(1, 0);
        Due.is("none", x.first(1), NONE);
        x.set(1, 1023);
        Due.is("all", x.first(1), 0);
        Due.is("above it", x.set(1, 1024), BAD);
        Due.is("below it", x.set(1, -1), BAD);
        Due.is("unchanged", x.count(6), 1023);
    }

    private static void forgetsAtFirst() {
        Due.sentence("FORGETS: RIDERS who leave theirs on the seat (bits of 0 to 7; none at first).");
        AfternoonChange x = Due.made("b09b;b09b;b09b;b09b;b09b;b09b;b09b;b09b", "");
        Due.is("none at first", x.served(9), 255);
        for (int r = 0; r < 8; r++) {
            x.set(2, 1 << r);
            Due.is("bit " + r, x.served(9), 255 - (1 << r));
            Due.is("his " + r, x.has(0, r), NONE);
        }
        Due.is("the last bit was told", x.set(2, 255), 128);
        Due.is("all", x.served(0), 0);
        Due.is("above it", x.set(2, 256), BAD);
        Due.is("below it", x.set(2, -1), BAD);
        Due.is("unchanged", x.set(2, 0), 255);
    }

    private static void type() {
        Due.sentence("A byte (0 to 255) comes behind a text: how many. BAD; FULL.");
        AfternoonChange x = new AfternoonChange();
        for (int text = 0; text < 2; text++) {
            Due.is("0", x.type(text, 0), 1);
            Due.is("255", x.type(text, 255), 2);
            Due.is("-1", x.type(text, -1), BAD);
            Due.is("256", x.type(text, 256), BAD);
            for (int far : FAR) {
                Due.is("far", x.type(text, far), BAD);
                Due.is("a far text", x.type(far, 'a'), BAD);
            }
            Due.is("bytes", x.count(2 + text), 2);
        }
        Due.is("text -1", x.type(-1, 'a'), BAD);
        Due.is("text 2", x.type(2, 'a'), BAD);
        x = Due.made(EIGHT, SIXTEEN);
        for (int text = 0; text < 2; text++) {
            Due.is("bad ahead of full", x.type(text, 256), BAD);
            Due.is("full", x.type(text, 255), FULL);
        }
    }

    private static void wipe() {
        Due.sentence("A text is empty: how many bytes it had. BAD.");
        AfternoonChange x = Due.made(EIGHT, SIXTEEN);
        Due.is("text -1", x.wipe(-1), BAD);
        Due.is("text 2", x.wipe(2), BAD);
        for (int far : FAR) {
            Due.is("a far text", x.wipe(far), BAD);
        }
        Due.is("the bag, full", x.wipe(1), 16);
        Due.is("the bag, empty", x.wipe(1), 0);
        Due.is("riders stay", x.count(0), 8);
        Due.is("riders, full", x.wipe(0), 39);
        Due.is("riders, empty", x.wipe(0), 0);
        Due.is("none", x.count(0), 0);
        Due.is("a first byte", x.type(0, 'x'), 1);
        Due.is("one with a fault", x.wipe(0), 1);
        x = Due.made("b09c;b09c", "cc", 2, 32, 3);
        x.wipe(0);
        Due.type(x, 0, "b00c;b67c");
        Due.is("those who were there change no more", x.count(4), 0);
        Due.is("nor do they leave theirs", x.has(9, 0), 1);
        x.wipe(0);
        Due.type(x, 0, "b00c;b59c");
        Due.is("but those who are there", x.count(4), 1);
    }

    private static void undo() {
        Due.sentence("The last byte of a text is undone: how many are left. BAD; NOT: it is empty.");
        AfternoonChange x = Due.made(EIGHT, SIXTEEN);
        Due.is("text -1", x.undo(-1), BAD);
        Due.is("text 2", x.undo(2), BAD);
        for (int far : FAR) {
            Due.is("a far text", x.undo(far), BAD);
        }
        for (int left = 38; left >= 0; left--) {
            Due.is("riders", x.undo(0), left);
        }
        Due.is("no riders", x.undo(0), NOT);
        for (int left = 15; left >= 0; left--) {
            Due.is("the bag", x.undo(1), left);
            Due.is("in it", x.bag(0, NONE), left);
        }
        Due.is("no bag", x.undo(1), NOT);
        Due.is("none", x.count(2) + x.count(3), 0);
        Due.is("the byte that was last is gone", Due.made("b09c", "").undo(0), 3);
    }

    private static void fault() {
        Due.sentence("The FAULT of a text; NONE. BAD.");
        AfternoonChange x = Due.made("b", "i");
        Due.is("of riders", x.fault(0), 1);
        Due.is("of the bag", x.fault(1), 0);
        Due.is("text -1", x.fault(-1), BAD);
        Due.is("text 2", x.fault(2), BAD);
        for (int far : FAR) {
            Due.is("a far text", x.fault(far), BAD);
        }
        x = Due.made(EIGHT, SIXTEEN);
        Due.is("none of riders", x.fault(0), NONE);
        Due.is("none of the bag", x.fault(1), NONE);
    }

    private static void rider() {
        Due.sentence("What it HAS at first (what = 0), boards (1), leaves (2), WANTS (3) of a RIDER. BAD.");
        AfternoonChange x = Due.made("b09c;h90a", "c");
        int[][] due = {{1, 0, 9, 2}, {7, 9, 0, 0}};
        for (int r = 0; r < 2; r++) {
            for (int what = 0; what < 4; what++) {
                Due.is("rider(" + r + ", " + what + ")", x.rider(r, what), due[r][what]);
            }
            Due.is("what = -1", x.rider(r, -1), BAD);
            Due.is("what = 4", x.rider(r, 4), BAD);
        }
        Due.is("at first, though it changes", x.has(0, 0), 2);
        for (int what = 0; what < 4; what++) {
            Due.is("rider -1", x.rider(-1, what), BAD);
            Due.is("rider 2", x.rider(2, what), BAD);
        }
        for (int far : FAR) {
            Due.is("a far rider", x.rider(far, 0), BAD);
            Due.is("a far what", x.rider(0, far), BAD);
        }
        Due.is("no riders", new AfternoonChange().rider(0, 0), BAD);
    }

    private static void worth() {
        Due.sentence("WORTH: what it was. BAD.");
        AfternoonChange x = new AfternoonChange();
        Due.is("afternoon -1", x.worth(-1, 0), BAD);
        Due.is("afternoon 8", x.worth(8, 0), BAD);
        for (int far : FAR) {
            Due.is("a far afternoon", x.worth(far, 0), BAD);
            Due.is("a far worth", x.worth(0, far), BAD);
        }
        for (int a = 0; a < 8; a++) {
            Due.is("-1", x.worth(a, -1), BAD);
            Due.is("10", x.worth(a, 10), BAD);
            Due.is("unchanged", x.worth(a, 0), a + 1);
            Due.is("0", x.worth(a, 9), 0);
            Due.is("9", x.worth(a, 9), 9);
            Due.is("10 behind 9", x.worth(a, 10), BAD);
            Due.is("still 9", x.worth(a, 9), 9);
        }
    }

    private static void set() {
        Due.sentence("EVEN (what = 0), CHANGES (1; 0 to 1023), FORGETS (2; 0 to 255): what it was. BAD.");
        AfternoonChange x = new AfternoonChange();
        int[] most = {9, 1023, 255};
        int[] first = {2, 32, 0};
        Due.is("what = -1", x.set(-1, 0), BAD);
        Due.is("what = 3", x.set(3, 0), BAD);
        for (int far : FAR) {
            Due.is("a far what", x.set(far, 0), BAD);
        }
        for (int what = 0; what < 3; what++) {
            Due.is("-1 to " + what, x.set(what, -1), BAD);
            Due.is("too much to " + what, x.set(what, most[what] + 1), BAD);
            for (int far : FAR) {
                Due.is("far to " + what, x.set(what, far), BAD);
            }
            Due.is("at first " + what, x.set(what, most[what]), first[what]);
            Due.is("the most of " + what, x.set(what, 0), most[what]);
            Due.is("the least of " + what, x.set(what, first[what]), 0);
        }
    }
}
