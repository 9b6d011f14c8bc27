import java.util.Arrays;

/** Afternoons changed on a tram, out of a bag, as ../shared/DOC.md promises. */
public final class AfternoonChange {
    public static final int NONE = -1, BAD = -2, NOT = -3, FULL = -4;

    private static final int RIDERS = 8, AFTERNOONS = 8, DAYS = 10, STOPS = 10;
    private static final int MONDAY = 0;
    /**
     * No day behind this one moves anything: all that is left on seats is left on day 0, each rider changes once at
     * most (not at all, if he left his), and a day that moves nothing is the last to be ridden.
     */
    private static final int LAST_MOVE = 7;
    /** A torn afternoon is its number and this. */
    private static final int TORN = 8;
    /** Bytes from the begin of a rider to that of the next one: four and a semicolon. */
    private static final int PART = 5;
    private static final int RIDERS_TEXT = 39, BAG_TEXT = 16;
    /** 16 told, one more on the top, one more by each of 4 pairs, 8 left on seats: a bag never has more. */
    private static final int BAG_ROOM = 29;
    /** The last place that may be asked of the bag. */
    private static final int LAST_PLACE = 27;
    private static final int MOST_EVEN = 9, MOST_WORTH = 9;
    private static final int STOP_SETS = 1 << STOPS, RIDER_SETS = 1 << RIDERS;
    private static final int MOST_OPEN = 3;
    private static final int MOST_SEEN = 8, SIXTEENTHS = 16;
    private static final int SHEETS = 4, FORMS = 3, SHEET_ROOM = 60;
    private static final int NULL = 1, INDEX = 2, CAST = 3, STORE = 4, SIZE = 5;
    private static final int LEAST_INT = 1 << 31;
    private static final long LEAST_LONG = 1L << 63;

    private final Text[] texts = {new Text(RIDERS_TEXT), new Text(BAG_TEXT)};
    private final Told told = new Told();
    /** The ten days as told; it is ridden anew with each thing that is told. */
    private final Ride ride = new Ride(told);
    /** The ten days with something in place of what was told. */
    private final Ride trial = new Ride(told);
    private final StopSets stopSets = new StopSets();
    private final Sightings sightings = new Sightings();
    private final Sheet[] sheets = {new Sheet(), new Sheet(), new Sheet(), new Sheet()};
    /** For each rider how many candidates end with each afternoon, or with none (the last one). */
    private final int[][] alike = new int[RIDERS][AFTERNOONS + 1];
    /** How many sets of open stops serve a rider, by how many stops are open. */
    private final int[] setsBySize = new int[STOPS + 1];
    private int latestFinding;

    public AfternoonChange() {
        tellAnew();
    }

    // ---- riders, the bag

    public int type(int text, int b) {
        if (isOutside(text, texts.length) || isOutside(b, 256)) {
            return BAD;
        }
        if (texts[text].isFull()) {
            return FULL;
        }
        texts[text].append(b);
        tellAnew();
        return texts[text].size;
    }

    public int wipe(int text) {
        if (isOutside(text, texts.length)) {
            return BAD;
        }
        int size = texts[text].size;
        texts[text].size = 0;
        tellAnew();
        return size;
    }

    public int undo(int text) {
        if (isOutside(text, texts.length)) {
            return BAD;
        }
        if (texts[text].size == 0) {
            return NOT;
        }
        texts[text].size--;
        tellAnew();
        return texts[text].size;
    }

    public int fault(int text) {
        if (isOutside(text, texts.length)) {
            return BAD;
        }
        return text == 0 ? texts[0].faultAsRiders() : texts[1].faultAsBag();
    }

    public int rider(int rider, int what) {
        if (isOutside(rider, told.riders)) {
            return BAD;
        }
        switch (what) {
            case 0: return told.starts[rider];
            case 1: return told.boards[rider];
            case 2: return told.leaves[rider];
            case 3: return told.wants[rider];
            default: return BAD;
        }
    }

    public int worth(int afternoon, int v) {
        if (isOutside(afternoon, AFTERNOONS) || isOutside(v, MOST_WORTH + 1)) {
            return BAD;
        }
        int old = told.worths[afternoon];
        told.worths[afternoon] = v;
        tellAnew();
        return old;
    }

    public int set(int what, int v) {
        switch (what) {
            case 0: return isOutside(v, MOST_EVEN + 1) ? BAD : tellEven(v);
            case 1: return isOutside(v, STOP_SETS) ? BAD : tellChanges(v);
            case 2: return isOutside(v, RIDER_SETS) ? BAD : tellForgets(v);
            default: return BAD;
        }
    }

    // ---- days

    public int has(int day, int rider) {
        if (isOutside(day, DAYS) || isOutside(rider, told.riders)) {
            return BAD;
        }
        return ride.hasOn(day, rider);
    }

    public int torn(int day, int rider) {
        if (isOutside(day, DAYS) || isOutside(rider, told.riders)) {
            return BAD;
        }
        return ride.tornOn(day) >> rider & 1;
    }

    public int bag(int day, int i) {
        if (isOutside(day, DAYS) || i < NONE || i > LAST_PLACE) {
            return BAD;
        }
        Bag bag = ride.bagOn(day);
        if (i == NONE) {
            return bag.size;
        }
        return i < bag.size ? bag.kinds[i] : NONE;
    }

    public int gets(int rider) {
        if (isOutside(rider, told.riders)) {
            return BAD;
        }
        for (int day = 0; day < DAYS; day++) {
            if ((ride.servedOn(day) >> rider & 1) == 1) {
                return day;
            }
        }
        return NONE;
    }

    public int first(int what) {
        switch (what) {
            case 0: return ride.firstDay;
            case 1: return ride.firstStop;
            case 2: return ride.firstRider;
            default: return BAD;
        }
    }

    public int still() {
        return ride.stillDay;
    }

    public int served(int day) {
        return isOutside(day, DAYS) ? BAD : ride.servedOn(day);
    }

    public int rings(int what) {
        if (isOutside(what, 2)) {
            return BAD;
        }
        int many = 0;
        int least = NONE;
        for (int i = 0; i < told.riders; i++) {
            for (int j = i + 1; j < told.riders; j++) {
                for (int k = j + 1; k < told.riders; k++) {
                    if (told.isRing(i, j, k) || told.isRing(i, k, j)) {
                        many++;
                        least = least == NONE ? 64 * i + 8 * j + k : least;
                    }
                }
            }
        }
        return what == 0 ? many : least;
    }

    // ---- plans

    public int open(int rider, int what) {
        if (isOutside(rider, told.riders) || isOutside(what, 2)) {
            return BAD;
        }
        for (int many = 0; many <= MOST_OPEN; many++) {
            for (int stops = 0; stops < STOP_SETS; stops++) {
                if (Integer.bitCount(stops) == many
                        && (stopSets.servedBy(stops, DAYS - 1, trial) >> rider & 1) == 1) {
                    return what == 0 ? many : stops;
                }
            }
        }
        return NONE;
    }

    public int least(int what) {
        if (isOutside(what, 2)) {
            return BAD;
        }
        int which = 0;
        int most = NONE;
        for (int even = 0; even <= MOST_EVEN; even++) {
            rideWithEven(even);
            int many = trial.servedAtLast();
            if (many > most) {
                most = many;
                which = even;
            }
        }
        return what == 0 ? which : most;
    }

    public int top(int what) {
        if (isOutside(what, 2)) {
            return BAD;
        }
        int which = 0;
        int most = NONE;
        for (int afternoon = 0; afternoon < AFTERNOONS; afternoon++) {
            trial.begin();
            trial.bag.putOnTop(afternoon);
            trial.go();
            int many = trial.servedAtLast();
            if (many > most) {
                most = many;
                which = afternoon;
            }
        }
        return what == 0 ? which : most;
    }

    // ---- seen, chance, depots

    public int seen(int day, int rider, int afternoon) {
        if (!Sightings.mayBe(day, rider, afternoon)) {
            return BAD;
        }
        if (sightings.isFull()) {
            return FULL;
        }
        sightings.append(day, rider, afternoon);
        return sightings.size;
    }

    public int forget() {
        int size = sightings.size;
        sightings.size = 0;
        return size;
    }

    public int read(int s) {
        if (isOutside(s, SHEETS)) {
            return BAD;
        }
        if (sheets[s].isLost()) {
            return finding(NULL);
        }
        int[] items = sheets[s].items;
        int many = 0;
        for (int i = 0; i + 3 <= sheets[s].size; i += 3) {
            if (sightings.isFull() || !Sightings.mayBe(items[i], items[i + 1], items[i + 2])) {
                break;
            }
            sightings.append(items[i], items[i + 1], items[i + 2]);
            many++;
        }
        return many;
    }

    public int had(int rider) {
        if (isOutside(rider, told.riders)) {
            return BAD;
        }
        int bits = 0;
        for (int afternoon = 0; afternoon < AFTERNOONS; afternoon++) {
            trial.begin();
            trial.has[rider] = afternoon;
            trial.go();
            if (sightings.comeOutIn(trial, told.riders)) {
                bits |= 1 << afternoon;
            }
        }
        return bits;
    }

    public int was() {
        int bits = 0;
        for (int even = 0; even <= MOST_EVEN; even++) {
            rideWithEven(even);
            if (sightings.comeOutIn(trial, told.riders)) {
                bits |= 1 << even;
            }
        }
        return bits;
    }

    public int ask(int day) {
        if (isOutside(day, DAYS)) {
            return BAD;
        }
        clearAlike();
        for (int even = 0; even <= MOST_EVEN; even++) {
            rideWithEven(even);
            if (sightings.comeOutIn(trial, told.riders)) {
                countAlike(day);
            }
        }
        int who = NONE;
        int least = 0;
        for (int r = 0; r < told.riders; r++) {
            int greatest = greatestOf(alike[r]);
            if (who == NONE || greatest < least) {
                who = r;
                least = greatest;
            }
        }
        return who;
    }

    public long maybe(int c, int day, int rider, int what) {
        if (isOutside(c, SIXTEENTHS + 1) || isOutside(day, DAYS)
                || isOutside(rider, told.riders) || isOutside(what, 2)) {
            return LEAST_LONG - BAD;
        }
        Arrays.fill(setsBySize, 0);
        for (int stops = 0; stops < STOP_SETS; stops++) {
            if ((stops & ~told.changes) == 0
                    && (stopSets.servedBy(stops, day, trial) >> rider & 1) == 1) {
                setsBySize[Integer.bitCount(stops)]++;
            }
        }
        int all = Integer.bitCount(told.changes);
        long above = chanceAbove(c, all);
        long below = 1L << 4 * all;
        for (int i = 0; i < 4 * all && above % 2 == 0; i++) {
            above /= 2;
            below /= 2;
        }
        return what == 0 ? above : below;
    }

    public int depot(int seed, int n, int what) {
        if (isOutside(n, BAG_TEXT + 1) || isOutside(what, 2)) {
            return BAD;
        }
        trial.begin();
        trial.bag.size = 0;
        int lot = seed;
        for (int i = 0; i < n; i++) {
            lot = 1103515245 * lot + 12345;
            trial.bag.putAtBottom((lot >>> 16) % AFTERNOONS);
        }
        trial.go();
        return what == 0 ? trial.servedAtLast() : trial.bag.size;
    }

    // ---- sheets

    public int sheet(int s, int form, int n) {
        if (isOutside(s, SHEETS) || isOutside(form, FORMS) || n > SHEET_ROOM) {
            return BAD;
        }
        if (n < 0) {
            return finding(SIZE);
        }
        sheets[s].startAnew(form, n);
        return n;
    }

    public int lose(int s) {
        if (isOutside(s, SHEETS)) {
            return BAD;
        }
        if (sheets[s].isLost()) {
            return finding(NULL);
        }
        int size = sheets[s].size;
        sheets[s].giveUp();
        return size;
    }

    public int lay(int s, int form, int i, int v) {
        int refusal = refusalOfItem(s, form, i);
        if (refusal != 0) {
            return refusal;
        }
        sheets[s].put(i, v);
        return 1;
    }

    public int get(int s, int form, int i) {
        return refusalOfItem(s, form, i) != 0 ? LEAST_INT : sheets[s].items[i];
    }

    public int copy(int s, int i, int t, int j, int n) {
        if (isOutside(s, SHEETS) || isOutside(t, SHEETS)) {
            return BAD;
        }
        if (sheets[s].isLost() || sheets[t].isLost()) {
            return finding(NULL);
        }
        if (sheets[s].form != sheets[t].form) {
            return finding(STORE);
        }
        if (!sheets[s].hasItems(i, n) || !sheets[t].hasItems(j, n)) {
            return finding(INDEX);
        }
        System.arraycopy(sheets[s].items, i, sheets[t].items, j, n);
        return 1;
    }

    public int write(int day, int s) {
        if (isOutside(day, DAYS) || isOutside(s, SHEETS)) {
            return BAD;
        }
        if (sheets[s].isLost()) {
            return finding(NULL);
        }
        Bag bag = ride.bagOn(day);
        int many = Math.min(sheets[s].size, bag.size);
        for (int i = 0; i < many; i++) {
            sheets[s].put(i, bag.kinds[i]);
        }
        return many;
    }

    public int count(int what) {
        switch (what) {
            case 0: return told.riders;
            case 1: return told.bag.size;
            case 2: return texts[0].size;
            case 3: return texts[1].size;
            case 4: return ride.made;
            case 5: return ride.servedAtLast();
            case 6: return told.changes;
            case 7: return sightings.size;
            case 8: return latestFinding;
            default: return BAD;
        }
    }

    public long digest() {
        long h = 17;
        for (int what = 0; what < 8; what++) {
            h = mix(h, count(what));
        }
        h = mix(mix(h, fault(0)), fault(1));
        for (int r = 0; r < told.riders; r++) {
            for (int what = 0; what < 4; what++) {
                h = mix(h, rider(r, what));
            }
            h = mix(mix(mix(mix(h, has(0, r)), has(9, r)), torn(9, r)), gets(r));
            h = mix(mix(mix(h, open(r, 0)), open(r, 1)), had(r));
            h = mix(mix(h, maybe(5, 3, r, 0)), maybe(5, 3, r, 1));
        }
        for (int i = 0; i < 3; i++) {
            int day = i == 0 ? 0 : i == 1 ? 4 : 9;
            h = mix(mix(mix(mix(h, served(day)), bag(day, NONE)), bag(day, 0)), ask(day));
        }
        for (int what = 0; what < 3; what++) {
            h = mix(h, first(what));
        }
        h = mix(mix(mix(h, still()), rings(0)), rings(1));
        h = mix(mix(mix(mix(h, least(0)), least(1)), top(0)), top(1));
        return mix(mix(mix(h, was()), depot(7, 9, 0)), depot(7, 9, 1));
    }

    // ---- parts of the acts above

    private static boolean isOutside(int number, int bound) {
        return number < 0 || number >= bound;
    }

    private static long mix(long h, long next) {
        return 31 * h + next;
    }

    private void tellAnew() {
        told.readRiders(texts[0]);
        told.readBag(texts[1]);
        stopSets.startAnew(told);
        ride.begin();
        ride.go();
    }

    private int tellEven(int v) {
        int old = told.even;
        told.even = v;
        tellAnew();
        return old;
    }

    private int tellChanges(int v) {
        int old = told.changes;
        told.changes = v;
        tellAnew();
        return old;
    }

    private int tellForgets(int v) {
        int old = told.forgets;
        told.forgets = v;
        tellAnew();
        return old;
    }

    private void rideWithEven(int even) {
        trial.begin();
        trial.even = even;
        trial.go();
    }

    private void clearAlike() {
        for (int r = 0; r < RIDERS; r++) {
            Arrays.fill(alike[r], 0);
        }
    }

    private void countAlike(int day) {
        for (int r = 0; r < told.riders; r++) {
            int afternoon = trial.hasOn(day, r);
            alike[r][afternoon == NONE ? AFTERNOONS : afternoon]++;
        }
    }

    private static int greatestOf(int[] row) {
        int greatest = 0;
        for (int number : row) {
            greatest = Math.max(greatest, number);
        }
        return greatest;
    }

    /** The chance in parts of 16 to the power of all, by the sets that were counted. */
    private long chanceAbove(int c, int all) {
        long above = 0;
        for (int many = 0; many <= all && many < setsBySize.length; many++) {
            long weight = setsBySize[many];
            for (int i = 0; i < all; i++) {
                weight *= i < many ? c : SIXTEENTHS - c;
            }
            above += weight;
        }
        return above;
    }

    private int finding(int number) {
        latestFinding = number;
        return -10 - number;
    }

    /** Why an item can't be reached; 0 if it can. */
    private int refusalOfItem(int s, int form, int i) {
        if (isOutside(s, SHEETS) || isOutside(form, FORMS)) {
            return BAD;
        }
        if (sheets[s].isLost()) {
            return finding(NULL);
        }
        if (sheets[s].form != form) {
            return finding(CAST);
        }
        return sheets[s].hasItems(i, 1) ? 0 : finding(INDEX);
    }

    /** Bytes as they were typed. */
    private static final class Text {
        final int[] bytes;
        int size;

        Text(int room) {
            bytes = new int[Math.max(room, 0)];
        }

        boolean isFull() {
            return size >= bytes.length;
        }

        void append(int b) {
            if (!isFull()) {
                bytes[size] = b;
                size++;
            }
        }

        int faultAsRiders() {
            for (int i = 0; i < size; i++) {
                if (i >= RIDERS * PART || !fitsRider(i % PART, bytes[i])) {
                    return i;
                }
            }
            return size == 0 || size % PART == PART - 1 ? NONE : size;
        }

        int faultAsBag() {
            for (int i = 0; i < size; i++) {
                if (kindOf(bytes[i]) == NONE) {
                    return i;
                }
            }
            return NONE;
        }

        static boolean fitsRider(int place, int b) {
            switch (place) {
                case 0: case 3: return b >= 'a' && b <= 'h';
                case 1: case 2: return b >= '0' && b <= '9';
                default: return b == ';';
            }
        }

        static int kindOf(int b) {
            if (b >= 'a' && b <= 'h') {
                return b - 'a';
            }
            return b >= 'A' && b <= 'H' ? b - 'A' + TORN : NONE;
        }
    }

    /** Afternoons from the top down: 0 to 7 whole, 8 to 15 torn. */
    private static final class Bag {
        final int[] kinds = new int[BAG_ROOM];
        int size;

        void become(Bag other) {
            System.arraycopy(other.kinds, 0, kinds, 0, other.size);
            size = other.size;
        }

        void putAtBottom(int kind) {
            if (size < kinds.length) {
                kinds[size] = kind;
                size++;
            }
        }

        void putOnTop(int kind) {
            if (size < kinds.length) {
                System.arraycopy(kinds, 0, kinds, 1, size);
                kinds[0] = kind;
                size++;
            }
        }

        int placeOf(int kind) {
            for (int i = 0; i < size; i++) {
                if (kinds[i] == kind) {
                    return i;
                }
            }
            return NONE;
        }

        void takeOut(int place) {
            if (place >= 0 && place < size) {
                size--;
                for (int i = place; i < size; i++) {
                    kinds[i] = kinds[i + 1];
                }
            }
        }
    }

    /** What was told of riders, bag and money; every ride starts from it. */
    private static final class Told {
        int riders;
        final int[] starts = new int[RIDERS];
        final int[] boards = new int[RIDERS];
        final int[] leaves = new int[RIDERS];
        final int[] wants = new int[RIDERS];
        /** For each stop, riders who are on board there once all have boarded, as bits. */
        final int[] aboard = new int[STOPS];
        /** For each stop, riders who leave there, as bits. */
        final int[] leaving = new int[STOPS];
        final Bag bag = new Bag();
        final int[] worths = {1, 2, 3, 4, 5, 6, 7, 8};
        int even = 2;
        int changes = 1 << 5;
        int forgets;

        void readRiders(Text text) {
            Arrays.fill(aboard, 0);
            Arrays.fill(leaving, 0);
            riders = text.faultAsRiders() == NONE ? (text.size + 1) / PART : 0;
            for (int r = 0; r < riders; r++) {
                starts[r] = text.bytes[PART * r] - 'a';
                boards[r] = text.bytes[PART * r + 1] - '0';
                leaves[r] = text.bytes[PART * r + 2] - '0';
                wants[r] = text.bytes[PART * r + 3] - 'a';
                placeOnBoard(r);
            }
        }

        private void placeOnBoard(int r) {
            for (int stop = boards[r]; stop < leaves[r]; stop++) {
                aboard[stop] |= 1 << r;
            }
            if (boards[r] < leaves[r]) {
                leaving[leaves[r]] |= 1 << r;
            }
        }

        void readBag(Text text) {
            bag.size = 0;
            int many = text.faultAsBag() == NONE ? text.size : 0;
            for (int i = 0; i < many; i++) {
                bag.putAtBottom(Text.kindOf(text.bytes[i]));
            }
        }

        /** Whether one that has an afternoon may change it, if the money need be as even as that. */
        boolean mayChange(int r, int afternoon, int asEven) {
            if (afternoon == NONE || afternoon == MONDAY || afternoon == wants[r]) {
                return false;
            }
            int gap = worths[afternoon] - worths[wants[r]];
            return gap <= asEven && -gap <= asEven;
        }

        boolean isRing(int i, int j, int k) {
            return wants[i] == starts[j] && wants[j] == starts[k] && wants[k] == starts[i]
                    && wants[i] != starts[i] && wants[j] != starts[j] && wants[k] != starts[k];
        }
    }

    /** Ten days of the tram. Between begin() and go() a part of its start may be put in place of what was told. */
    private static final class Ride {
        private final Told told;
        int even;
        int changes;
        final int[] has = new int[RIDERS];
        final Bag bag = new Bag();
        private int torn;
        private final int[][] hasBehind = new int[DAYS][RIDERS];
        private final int[] tornBehind = new int[DAYS];
        private final int[] servedBehind = new int[DAYS];
        private final Bag[] bagBehind = new Bag[DAYS];
        /** The last day that had to be ridden: all behind it are like it. */
        private int lastDay;
        int made;
        int firstDay;
        int firstStop;
        int firstRider;
        int stillDay;

        Ride(Told told) {
            this.told = told;
            for (int day = 0; day < DAYS; day++) {
                bagBehind[day] = new Bag();
            }
        }

        void begin() {
            even = told.even;
            changes = told.changes;
            System.arraycopy(told.starts, 0, has, 0, RIDERS);
            bag.become(told.bag);
        }

        void go() {
            torn = 0;
            made = 0;
            firstDay = NONE;
            firstStop = NONE;
            firstRider = NONE;
            stillDay = NONE;
            boolean isAsBefore = false;
            for (int day = 0; day < DAYS && !isAsBefore; day++) {
                int madeBefore = made;
                boolean isLeft = false;
                for (int stop = 0; stop < STOPS; stop++) {
                    if (leaveAt(stop)) {
                        isLeft = true;
                    }
                    if ((changes >> stop & 1) == 1) {
                        changeAt(day, stop);
                    }
                }
                keep(day);
                if (made == madeBefore && stillDay == NONE) {
                    stillDay = day;
                }
                // a day that moved nothing ends as it began, and so do all that follow
                isAsBefore = made == madeBefore && !isLeft;
            }
        }

        /** Whether one left his on the seat. */
        private boolean leaveAt(int stop) {
            boolean isLeft = false;
            int forgetful = told.leaving[stop] & told.forgets;
            for (int r = 0; r < told.riders && forgetful != 0; r++) {
                if ((forgetful >> r & 1) == 1 && has[r] != NONE) {
                    bag.putAtBottom(has[r]);
                    has[r] = NONE;
                    torn &= ~(1 << r);
                    isLeft = true;
                }
            }
            return isLeft;
        }

        private void changeAt(int day, int stop) {
            int aboard = told.aboard[stop];
            for (int r = 0; r < told.riders; r++) {
                if ((aboard >> r & 1) == 1 && told.mayChange(r, has[r], even)
                        && (takeWhole(r) || takeTorn(r, aboard))) {
                    made++;
                    if (firstDay == NONE) {
                        firstDay = day;
                        firstStop = stop;
                        firstRider = r;
                    }
                }
            }
        }

        private boolean takeWhole(int r) {
            int place = bag.placeOf(told.wants[r]);
            if (place == NONE) {
                return false;
            }
            bag.takeOut(place);
            bag.putAtBottom(has[r]);
            has[r] = told.wants[r];
            return true;
        }

        private boolean takeTorn(int r, int aboard) {
            int place = bag.placeOf(told.wants[r] + TORN);
            if (place == NONE) {
                return false;
            }
            for (int other = 0; other < told.riders; other++) {
                if (other != r && (aboard >> other & 1) == 1 && told.wants[other] == told.wants[r]
                        && told.mayChange(other, has[other], even)) {
                    bag.takeOut(place);
                    bag.putAtBottom(has[r]);
                    bag.putAtBottom(has[other]);
                    has[r] = told.wants[r];
                    has[other] = told.wants[r];
                    torn |= 1 << r | 1 << other;
                    return true;
                }
            }
            return false;
        }

        private void keep(int day) {
            lastDay = day;
            System.arraycopy(has, 0, hasBehind[day], 0, RIDERS);
            tornBehind[day] = torn;
            bagBehind[day].become(bag);
            servedBehind[day] = 0;
            for (int r = 0; r < told.riders; r++) {
                if (has[r] == told.wants[r]) {
                    servedBehind[day] |= 1 << r;
                }
            }
        }

        int hasOn(int day, int r) {
            return hasBehind[Math.min(day, lastDay)][r];
        }

        int tornOn(int day) {
            return tornBehind[Math.min(day, lastDay)];
        }

        int servedOn(int day) {
            return servedBehind[Math.min(day, lastDay)];
        }

        Bag bagOn(int day) {
            return bagBehind[Math.min(day, lastDay)];
        }

        int servedAtLast() {
            return Integer.bitCount(servedBehind[lastDay]);
        }
    }

    /** Who is served behind each day by each set of open stops; a set is ridden only once until more is told. */
    private static final class StopSets {
        /** Eight bits for each of days 0 to 7, the last on which anything may move (see LAST_MOVE). */
        private final long[] served = new long[STOP_SETS];
        /** The telling by which a set was ridden. */
        private final int[] stamps = new int[STOP_SETS];
        private int stamp;
        /** Stops at which one is on board who may change at first. The others don't matter: who may not, never may. */
        private int useful;

        void startAnew(Told told) {
            stamp++;
            useful = 0;
            for (int r = 0; r < told.riders; r++) {
                if (told.mayChange(r, told.starts[r], told.even)) {
                    for (int stop = 0; stop < STOPS; stop++) {
                        useful |= (told.aboard[stop] >> r & 1) << stop;
                    }
                }
            }
        }

        int servedBy(int stops, int day, Ride trial) {
            int set = stops & useful;
            if (stamps[set] != stamp) {
                trial.begin();
                trial.changes = set;
                trial.go();
                served[set] = 0;
                for (int d = 0; d <= LAST_MOVE; d++) {
                    served[set] |= (long) trial.servedOn(d) << RIDERS * d;
                }
                stamps[set] = stamp;
            }
            return (int) (served[set] >>> RIDERS * Math.min(day, LAST_MOVE)) & RIDER_SETS - 1;
        }
    }

    /** What was seen: behind a day a rider had an afternoon, or none. */
    private static final class Sightings {
        private final int[] days = new int[MOST_SEEN];
        private final int[] riders = new int[MOST_SEEN];
        private final int[] afternoons = new int[MOST_SEEN];
        int size;

        static boolean mayBe(int day, int rider, int afternoon) {
            return !isOutside(day, DAYS) && !isOutside(rider, RIDERS) && !isOutside(afternoon, AFTERNOONS + 1);
        }

        boolean isFull() {
            return size >= MOST_SEEN;
        }

        void append(int day, int rider, int afternoon) {
            if (!isFull()) {
                days[size] = day;
                riders[size] = rider;
                afternoons[size] = afternoon;
                size++;
            }
        }

        boolean comeOutIn(Ride ride, int many) {
            for (int i = 0; i < size; i++) {
                int due = afternoons[i] == AFTERNOONS ? NONE : afternoons[i];
                if (riders[i] >= many || ride.hasOn(days[i], riders[i]) != due) {
                    return false;
                }
            }
            return true;
        }
    }

    /** A row of a form; without a form it is lost. */
    private static final class Sheet {
        int form = NONE;
        int size;
        final int[] items = new int[SHEET_ROOM];

        boolean isLost() {
            return form == NONE;
        }

        void startAnew(int newForm, int n) {
            form = newForm;
            size = n;
            Arrays.fill(items, 0);
        }

        void giveUp() {
            form = NONE;
            size = 0;
        }

        boolean hasItems(int from, int many) {
            return from >= 0 && many >= 0 && from <= size && many <= size - from;
        }

        void put(int i, int v) {
            if (i >= 0 && i < size) {
                items[i] = form == 0 ? (byte) v : form == 1 ? (short) v : v;
            }
        }
    }
}
