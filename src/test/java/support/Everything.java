import java.util.ArrayList;
import java.util.List;

/** All that an object can be asked, but for the latest finding, in some 400 calls: what was told is told away by it. */
final class Everything {
    private Everything() {
    }

    static long[] of(AfternoonChange x) {
        List<Long> all = new ArrayList<>();
        all.add(x.digest());
        for (int i = -1; i < 28; i++) {
            all.add((long) x.bag(0, i));
            all.add((long) x.bag(9, i));
        }
        sheets(x, all);
        for (int what = 0; what < 3; what++) {
            all.add((long) x.set(what, 0));
        }
        for (int a = 0; a < 8; a++) {
            all.add((long) x.worth(a, 0));
        }
        all.add((long) x.forget());
        for (int text = 0; text < 2; text++) {
            all.add((long) x.wipe(text));
        }
        return all.stream().mapToLong(e -> e).toArray();
    }

    private static void sheets(AfternoonChange x, List<Long> all) {
        for (int s = 0; s < 4; s++) {
            int form = 0;
            while (form < 2 && x.lay(s, form, -1, 0) == -13) {
                form++;
            }
            all.add((long) form);
            for (int i = 0; i < 60 && x.copy(s, i, s, i, 1) == 1; i++) {
                all.add((long) x.get(s, form, i));
            }
            all.add((long) x.lose(s));
        }
    }
}
