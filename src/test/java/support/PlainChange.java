import java.math.BigInteger;
import java.util.ArrayList;
import java.util.Arrays;
import java.util.HashMap;
import java.util.List;
import java.util.Map;
import java.util.regex.Matcher;
import java.util.regex.Pattern;

/** The document once more, as slowly and plainly as can be: nothing is kept between calls but what was told. */
final class PlainChange {
    private static final Pattern RIDERS = Pattern.compile("([a-h][0-9][0-9][a-h](;[a-h][0-9][0-9][a-h]){0,7})?");
    private static final Pattern BAG = Pattern.compile("[a-hA-H]*");

    private record Rider(int has, int boards, int leaves, int wants) {
    }

    private record Change(int day, int stop, int who) {
    }

    private static final class Outcome {
        final List<List<Integer>> has = new ArrayList<>();
        final List<List<Boolean>> torn = new ArrayList<>();
        final List<List<Integer>> bags = new ArrayList<>();
        final List<Change> changes = new ArrayList<>();
        List<Rider> riders;

        int served(int day) {
            int bits = 0;
            for (int r = 0; r < riders.size(); r++) {
                if (has.get(day).get(r) == riders.get(r).wants()) {
                    bits |= 1 << r;
                }
            }
            return bits;
        }
    }

    private final StringBuilder[] texts = {new StringBuilder(), new StringBuilder()};
    private final int[] worth = {1, 2, 3, 4, 5, 6, 7, 8};
    private final int[] rules = {2, 32, 0};
    private final List<int[]> seen = new ArrayList<>();
    private final Object[] sheets = new Object[4];
    private int finding = 0;

    private List<Rider> riders() {
        List<Rider> list = new ArrayList<>();
        if (fault(0) == -1 && texts[0].length() > 0) {
            for (String part : texts[0].toString().split(";")) {
                list.add(new Rider(part.charAt(0) - 'a', part.charAt(1) - '0', part.charAt(2) - '0', part.charAt(3) - 'a'));
            }
        }
        return list;
    }

    private List<Integer> bagTold() {
        List<Integer> list = new ArrayList<>();
        if (fault(1) == -1) {
            for (char c : texts[1].toString().toCharArray()) {
                list.add("abcdefghABCDEFGH".indexOf(c));
            }
        }
        return list;
    }

    private Outcome told() {
        return ride(riders(), bagTold(), rules[0], rules[1]);
    }

    private boolean may(Rider rider, int has, int even) {
        return has >= 0 && has != 0 && has != rider.wants() && Math.abs(worth[has] - worth[rider.wants()]) <= even;
    }

    private Outcome ride(List<Rider> riders, List<Integer> bagAtFirst, int even, int changes) {
        Outcome out = new Outcome();
        out.riders = riders;
        List<Integer> bag = new ArrayList<>(bagAtFirst);
        List<Integer> has = new ArrayList<>();
        List<Boolean> torn = new ArrayList<>();
        for (Rider rider : riders) {
            has.add(rider.has());
            torn.add(false);
        }
        for (int day = 0; day < 10; day++) {
            boolean[] on = new boolean[riders.size()];
            for (int stop = 0; stop < 10; stop++) {
                for (int r = 0; r < on.length; r++) {
                    if (on[r] && riders.get(r).leaves() == stop) {
                        on[r] = false;
                        if ((rules[2] & 1 << r) != 0 && has.get(r) != -1) {
                            bag.add(has.get(r));
                            has.set(r, -1);
                            torn.set(r, false);
                        }
                    }
                }
                for (int r = 0; r < on.length; r++) {
                    if (riders.get(r).boards() == stop && riders.get(r).leaves() > stop) {
                        on[r] = true;
                    }
                }
                if ((changes & 1 << stop) == 0) {
                    continue;
                }
                for (int r = 0; r < on.length; r++) {
                    if (!on[r] || !may(riders.get(r), has.get(r), even)) {
                        continue;
                    }
                    Integer want = riders.get(r).wants();
                    if (bag.remove(want)) {
                        bag.add(has.get(r));
                        has.set(r, want);
                        torn.set(r, false);
                        out.changes.add(new Change(day, stop, r));
                        continue;
                    }
                    if (!bag.contains(want + 8)) {
                        continue;
                    }
                    for (int o = 0; o < on.length; o++) {
                        if (o != r && on[o] && may(riders.get(o), has.get(o), even) && riders.get(o).wants() == want) {
                            bag.remove((Integer) (want + 8));
                            bag.add(has.get(r));
                            bag.add(has.get(o));
                            has.set(r, want);
                            has.set(o, want);
                            torn.set(r, true);
                            torn.set(o, true);
                            out.changes.add(new Change(day, stop, r));
                            break;
                        }
                    }
                }
            }
            out.has.add(new ArrayList<>(has));
            out.torn.add(new ArrayList<>(torn));
            out.bags.add(new ArrayList<>(bag));
        }
        return out;
    }

    int type(int text, int b) {
        if (text < 0 || text > 1 || b < 0 || b > 255) {
            return -2;
        }
        if (texts[text].length() == (text == 0 ? 39 : 16)) {
            return -4;
        }
        return texts[text].append((char) b).length();
    }

    int wipe(int text) {
        if (text < 0 || text > 1) {
            return -2;
        }
        int n = texts[text].length();
        texts[text].setLength(0);
        return n;
    }

    int undo(int text) {
        if (text < 0 || text > 1) {
            return -2;
        }
        if (texts[text].length() == 0) {
            return -3;
        }
        texts[text].setLength(texts[text].length() - 1);
        return texts[text].length();
    }

    int fault(int text) {
        if (text < 0 || text > 1) {
            return -2;
        }
        Pattern pattern = text == 0 ? RIDERS : BAG;
        String all = texts[text].toString();
        for (int n = 1; n <= all.length(); n++) {
            Matcher m = pattern.matcher(all.substring(0, n));
            if (!m.matches() && !m.hitEnd()) {
                return n - 1;
            }
        }
        return pattern.matcher(all).matches() ? -1 : all.length();
    }

    int rider(int rider, int what) {
        List<Rider> riders = riders();
        if (rider < 0 || rider >= riders.size() || what < 0 || what > 3) {
            return -2;
        }
        Rider r = riders.get(rider);
        return new int[] {r.has(), r.boards(), r.leaves(), r.wants()}[what];
    }

    int worth(int afternoon, int v) {
        if (afternoon < 0 || afternoon > 7 || v < 0 || v > 9) {
            return -2;
        }
        int old = worth[afternoon];
        worth[afternoon] = v;
        return old;
    }

    int set(int what, int v) {
        int[] most = {9, 1023, 255};
        if (what < 0 || what > 2 || v < 0 || v > most[what]) {
            return -2;
        }
        int old = rules[what];
        rules[what] = v;
        return old;
    }

    private boolean bad(int day, int rider) {
        return day < 0 || day > 9 || rider < 0 || rider >= riders().size();
    }

    int has(int day, int rider) {
        return bad(day, rider) ? -2 : told().has.get(day).get(rider);
    }

    int torn(int day, int rider) {
        return bad(day, rider) ? -2 : told().torn.get(day).get(rider) ? 1 : 0;
    }

    int bag(int day, int i) {
        if (day < 0 || day > 9 || i < -1 || i > 27) {
            return -2;
        }
        List<Integer> bag = told().bags.get(day);
        return i == -1 ? bag.size() : i < bag.size() ? bag.get(i) : -1;
    }

    int gets(int rider) {
        if (bad(0, rider)) {
            return -2;
        }
        Outcome out = told();
        for (int day = 0; day < 10; day++) {
            if ((out.served(day) & 1 << rider) != 0) {
                return day;
            }
        }
        return -1;
    }

    int first(int what) {
        if (what < 0 || what > 2) {
            return -2;
        }
        List<Change> changes = told().changes;
        if (changes.isEmpty()) {
            return -1;
        }
        Change c = changes.get(0);
        return new int[] {c.day(), c.stop(), c.who()}[what];
    }

    int still() {
        List<Change> changes = told().changes;
        for (int day = 0; day < 10; day++) {
            int d = day;
            if (changes.stream().noneMatch(c -> c.day() == d)) {
                return day;
            }
        }
        return -1;
    }

    int served(int day) {
        return day < 0 || day > 9 ? -2 : told().served(day);
    }

    int rings(int what) {
        if (what < 0 || what > 1) {
            return -2;
        }
        List<Rider> riders = riders();
        List<Integer> found = new ArrayList<>();
        for (int a = 0; a < riders.size(); a++) {
            for (int b = 0; b < riders.size(); b++) {
                for (int c = 0; c < riders.size(); c++) {
                    Rider x = riders.get(a);
                    Rider y = riders.get(b);
                    Rider z = riders.get(c);
                    if (a != b && b != c && a != c
                            && x.wants() == y.has() && y.wants() == z.has() && z.wants() == x.has()
                            && x.wants() != x.has() && y.wants() != y.has() && z.wants() != z.has()) {
                        int[] three = {a, b, c};
                        Arrays.sort(three);
                        int code = 64 * three[0] + 8 * three[1] + three[2];
                        if (!found.contains(code)) {
                            found.add(code);
                        }
                    }
                }
            }
        }
        return what == 0 ? found.size() : found.stream().mapToInt(c -> c).min().orElse(-1);
    }

    int open(int rider, int what) {
        if (bad(0, rider) || what < 0 || what > 1) {
            return -2;
        }
        for (int n = 0; n <= 3; n++) {
            for (int bits = 0; bits < 1024; bits++) {
                if (Integer.bitCount(bits) == n
                        && (ride(riders(), bagTold(), rules[0], bits).served(9) & 1 << rider) != 0) {
                    return what == 0 ? n : bits;
                }
            }
        }
        return -1;
    }

    int least(int what) {
        if (what < 0 || what > 1) {
            return -2;
        }
        int[] best = {0, -1};
        for (int e = 0; e < 10; e++) {
            int n = Integer.bitCount(ride(riders(), bagTold(), e, rules[1]).served(9));
            if (n > best[1]) {
                best = new int[] {e, n};
            }
        }
        return best[what];
    }

    int top(int what) {
        if (what < 0 || what > 1) {
            return -2;
        }
        int[] best = {0, -1};
        for (int a = 0; a < 8; a++) {
            List<Integer> bag = bagTold();
            bag.add(0, a);
            int n = Integer.bitCount(ride(riders(), bag, rules[0], rules[1]).served(9));
            if (n > best[1]) {
                best = new int[] {a, n};
            }
        }
        return best[what];
    }

    int seen(int day, int rider, int afternoon) {
        if (day < 0 || day > 9 || rider < 0 || rider > 7 || afternoon < 0 || afternoon > 8) {
            return -2;
        }
        if (seen.size() == 8) {
            return -4;
        }
        seen.add(new int[] {day, rider, afternoon});
        return seen.size();
    }

    int forget() {
        int n = seen.size();
        seen.clear();
        return n;
    }

    int read(int s) {
        if (s < 0 || s > 3) {
            return -2;
        }
        if (sheets[s] == null) {
            return found(1);
        }
        int[] items = items(s);
        int n = 0;
        while (3 * n + 2 < items.length && seen(items[3 * n], items[3 * n + 1], items[3 * n + 2]) > 0) {
            n++;
        }
        return n;
    }

    private boolean comesOut(Outcome out) {
        for (int[] s : seen) {
            if (s[1] >= out.riders.size() || out.has.get(s[0]).get(s[1]) != (s[2] == 8 ? -1 : s[2])) {
                return false;
            }
        }
        return true;
    }

    int had(int rider) {
        if (bad(0, rider)) {
            return -2;
        }
        int bits = 0;
        for (int a = 0; a < 8; a++) {
            List<Rider> riders = riders();
            Rider r = riders.get(rider);
            riders.set(rider, new Rider(a, r.boards(), r.leaves(), r.wants()));
            if (comesOut(ride(riders, bagTold(), rules[0], rules[1]))) {
                bits |= 1 << a;
            }
        }
        return bits;
    }

    int was() {
        int bits = 0;
        for (int e = 0; e < 10; e++) {
            if (comesOut(ride(riders(), bagTold(), e, rules[1]))) {
                bits |= 1 << e;
            }
        }
        return bits;
    }

    int ask(int day) {
        if (day < 0 || day > 9) {
            return -2;
        }
        int best = -1;
        int bestSize = 99;
        for (int r = 0; r < riders().size(); r++) {
            Map<Integer, Integer> groups = new HashMap<>();
            for (int e = 0; e < 10; e++) {
                Outcome out = ride(riders(), bagTold(), e, rules[1]);
                if (comesOut(out)) {
                    groups.merge(out.has.get(day).get(r), 1, Integer::sum);
                }
            }
            int size = groups.values().stream().mapToInt(n -> n).max().orElse(0);
            if (size < bestSize) {
                best = r;
                bestSize = size;
            }
        }
        return best;
    }

    long maybe(int c, int day, int rider, int what) {
        if (c < 0 || c > 16 || bad(day, rider) || what < 0 || what > 1) {
            return Long.MIN_VALUE + 2;
        }
        BigInteger above = BigInteger.ZERO;
        BigInteger below = BigInteger.valueOf(16).pow(Integer.bitCount(rules[1]));
        for (int bits = 0; bits < 1024; bits++) {
            if ((bits & rules[1]) == bits && (ride(riders(), bagTold(), rules[0], bits).served(day) & 1 << rider) != 0) {
                BigInteger weight = BigInteger.ONE;
                for (int stop = 0; stop < 10; stop++) {
                    if ((rules[1] & 1 << stop) != 0) {
                        weight = weight.multiply(BigInteger.valueOf((bits & 1 << stop) != 0 ? c : 16 - c));
                    }
                }
                above = above.add(weight);
            }
        }
        BigInteger gcd = above.gcd(below);
        return (what == 0 ? above : below).divide(gcd).longValueExact();
    }

    int depot(int seed, int n, int what) {
        if (n < 0 || n > 16 || what < 0 || what > 1) {
            return -2;
        }
        List<Integer> bag = new ArrayList<>();
        for (int i = 0; i < n; i++) {
            seed = 1103515245 * seed + 12345;
            bag.add((seed >> 16 & 0xFFFF) % 8);
        }
        Outcome out = ride(riders(), bag, rules[0], rules[1]);
        return what == 0 ? Integer.bitCount(out.served(9)) : out.bags.get(9).size();
    }

    private int found(int number) {
        finding = number;
        return -10 - number;
    }

    private int[] items(int s) {
        int[] items = new int[length(s)];
        for (int i = 0; i < items.length; i++) {
            items[i] = java.lang.reflect.Array.getInt(sheets[s], i);
        }
        return items;
    }

    private int length(int s) {
        return java.lang.reflect.Array.getLength(sheets[s]);
    }

    private void lay(int s, int i, int v) {
        if (sheets[s] instanceof byte[] bytes) {
            bytes[i] = (byte) v;
        } else if (sheets[s] instanceof short[] shorts) {
            shorts[i] = (short) v;
        } else {
            ((int[]) sheets[s])[i] = v;
        }
    }

    int sheet(int s, int form, int n) {
        if (s < 0 || s > 3 || form < 0 || form > 2 || n > 60) {
            return -2;
        }
        if (n < 0) {
            return found(5);
        }
        sheets[s] = form == 0 ? new byte[n] : form == 1 ? new short[n] : new int[n];
        return n;
    }

    int lose(int s) {
        if (s < 0 || s > 3) {
            return -2;
        }
        if (sheets[s] == null) {
            return found(1);
        }
        int n = length(s);
        sheets[s] = null;
        return n;
    }

    private int reach(int s, int form, int i) {
        if (s < 0 || s > 3 || form < 0 || form > 2) {
            return -2;
        }
        if (sheets[s] == null) {
            return found(1);
        }
        Class<?>[] forms = {byte[].class, short[].class, int[].class};
        if (sheets[s].getClass() != forms[form]) {
            return found(3);
        }
        return i < 0 || i >= length(s) ? found(2) : 0;
    }

    int lay(int s, int form, int i, int v) {
        int refusal = reach(s, form, i);
        if (refusal != 0) {
            return refusal;
        }
        lay(s, i, v);
        return 1;
    }

    int get(int s, int form, int i) {
        return reach(s, form, i) != 0 ? Integer.MIN_VALUE : items(s)[i];
    }

    int copy(int s, int i, int t, int j, int n) {
        if (s < 0 || s > 3 || t < 0 || t > 3) {
            return -2;
        }
        if (sheets[s] == null || sheets[t] == null) {
            return found(1);
        }
        if (sheets[s].getClass() != sheets[t].getClass()) {
            return found(4);
        }
        if (i < 0 || j < 0 || n < 0 || (long) i + n > length(s) || (long) j + n > length(t)) {
            return found(2);
        }
        int[] old = items(s);
        for (int k = 0; k < n; k++) {
            lay(t, j + k, old[i + k]);
        }
        return 1;
    }

    int write(int day, int s) {
        if (day < 0 || day > 9 || s < 0 || s > 3) {
            return -2;
        }
        if (sheets[s] == null) {
            return found(1);
        }
        List<Integer> bag = told().bags.get(day);
        int n = 0;
        while (n < length(s) && n < bag.size()) {
            lay(s, n, bag.get(n));
            n++;
        }
        return n;
    }

    int count(int what) {
        switch (what) {
            case 0: return riders().size();
            case 1: return bagTold().size();
            case 2: return texts[0].length();
            case 3: return texts[1].length();
            case 4: return told().changes.size();
            case 5: return Integer.bitCount(told().served(9));
            case 6: return rules[1];
            case 7: return seen.size();
            case 8: return finding;
            default: return -2;
        }
    }

    long digest() {
        List<Long> each = new ArrayList<>();
        for (int what = 0; what <= 7; what++) {
            each.add((long) count(what));
        }
        each.add((long) fault(0));
        each.add((long) fault(1));
        for (int r = 0; r < riders().size(); r++) {
            for (int what = 0; what <= 3; what++) {
                each.add((long) rider(r, what));
            }
            each.add((long) has(0, r));
            each.add((long) has(9, r));
            each.add((long) torn(9, r));
            each.add((long) gets(r));
            each.add((long) open(r, 0));
            each.add((long) open(r, 1));
            each.add((long) had(r));
            each.add(maybe(5, 3, r, 0));
            each.add(maybe(5, 3, r, 1));
        }
        for (int day : new int[] {0, 4, 9}) {
            each.add((long) served(day));
            each.add((long) bag(day, -1));
            each.add((long) bag(day, 0));
            each.add((long) ask(day));
        }
        for (int what = 0; what <= 2; what++) {
            each.add((long) first(what));
        }
        each.add((long) still());
        for (int what = 0; what <= 1; what++) {
            each.add((long) rings(what));
        }
        for (int what = 0; what <= 1; what++) {
            each.add((long) least(what));
        }
        for (int what = 0; what <= 1; what++) {
            each.add((long) top(what));
        }
        each.add((long) was());
        each.add((long) depot(7, 9, 0));
        each.add((long) depot(7, 9, 1));
        long h = 17;
        for (long v : each) {
            h = 31 * h + v;
        }
        return h;
    }
}
