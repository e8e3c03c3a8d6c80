import java.util.Arrays;

/** Bridges over a cut that lift for what they like, and the boats that come to them. */
public final class BowingBridges {
    public static final int NONE = -1, BAD = -2, NOT = -3, FULL = -4;

    private static final int MOST = 8;
    private static final int MARKS = 6;
    private static final int MOST_MANY = 9;
    private static final int STEPS = 100;
    private static final int STARTS = 10;
    private static final int NEVER = STEPS;
    private static final int PLACES = MOST + 2;

    private static final int BRIDGE_TEXT = 0, BOAT_TEXT = 1, TEXTS = 2;
    private static final int BRIDGE_BYTES = 31, BOAT_BYTES = 63;

    private static final int LIKES = 0, SNUBS = 1, WEIGHS = 2;

    // The rows that CARGO may be, from the one that is liked best on.
    private static final int CARGO_ROWS = 28;
    private static final int[] CARGO_FIRST = {
        NONE,
        0, 1, 2, 3, 4, 5,
        0, 0, 0, 0, 0, 0, 1, 1, 1, 1, 1, 2, 2, 2, 2, 3, 3, 3, 4, 4, 5,
    };
    private static final int[] CARGO_SECOND = {
        NONE,
        NONE, NONE, NONE, NONE, NONE, NONE,
        0, 1, 2, 3, 4, 5, 1, 2, 3, 4, 5, 2, 3, 4, 5, 3, 4, 5, 4, 5, 5,
    };

    private static final int SIXTEENTHS = 16;
    private static final int SUBSETS = 256;

    private static final int SHEETS = 4;
    private static final int FORMS = 3;
    private static final int MOST_ITEMS = 60;
    private static final int BYTES = 0, SHORTS = 1;

    private static final int NULL = 1, INDEX = 2, CAST = 3, STORE = 4, SIZE = 5;

    // Written out, as the library that LANGUAGE.md leaves has functions of Integer and Long, not their constants.
    private static final int LEAST_INT = -2147483648;
    private static final long LEAST_LONG = -9223372036854775808L;

    private final Text[] texts = new Text[TEXTS];
    private final Bridges bridges = new Bridges();
    private final Boats boats = new Boats();
    private final Shams shams = new Shams();
    private final Sightings sightings = new Sightings();
    private final Sheet[] sheets = new Sheet[SHEETS];
    private final Voyage actual = new Voyage();
    private final Voyage trial = new Voyage();
    private final Beliefs beliefs = new Beliefs();
    private final Plan plan = new Plan();
    private final int[] load = new int[MARKS];
    private final int[] tally = new int[MOST * PLACES];
    private int finding;

    public BowingBridges() {
        texts[BRIDGE_TEXT] = new Text(BRIDGE_BYTES);
        texts[BOAT_TEXT] = new Text(BOAT_BYTES);
        for (int s = 0; s < SHEETS; s++) {
            sheets[s] = new Sheet();
        }
    }

    // ---- bridges, boats, shams

    public int type(int text, int b) {
        if (!isWithin(text, TEXTS) || !isWithin(b, 256)) {
            return BAD;
        }
        Text bytes = texts[text];
        if (bytes.isFull()) {
            return FULL;
        }
        bytes.append(b);
        understand(text);
        return bytes.size;
    }

    public int wipe(int text) {
        if (!isWithin(text, TEXTS)) {
            return BAD;
        }
        int had = texts[text].size;
        texts[text].size = 0;
        understand(text);
        return had;
    }

    public int undo(int text) {
        if (!isWithin(text, TEXTS)) {
            return BAD;
        }
        Text bytes = texts[text];
        if (bytes.size == 0) {
            return NOT;
        }
        bytes.size--;
        understand(text);
        return bytes.size;
    }

    public int fault(int text) {
        if (!isWithin(text, TEXTS)) {
            return BAD;
        }
        return text == BRIDGE_TEXT ? bridges.faultPlace : boats.faultPlace;
    }

    public int bridge(int bridge, int what) {
        if (!isBridge(bridge) || !isWithin(what, 3)) {
            return BAD;
        }
        return bridges.part(bridge, what);
    }

    public int boat(int boat, int what) {
        if (!isBoat(boat) || !isWithin(what, MARKS + 1)) {
            return BAD;
        }
        return what == MARKS ? boats.start[boat] : boats.marks[boat][what];
    }

    public int sham(int boat, int mark) {
        if (!Shams.mayBe(boat, mark)) {
            return BAD;
        }
        if (shams.isFull()) {
            return FULL;
        }
        shams.append(boat, mark);
        resail();
        return shams.size;
    }

    public int back() {
        if (shams.size == 0) {
            return NOT;
        }
        shams.dropLast();
        resail();
        return shams.size;
    }

    public int read(int s) {
        if (!isWithin(s, SHEETS)) {
            return BAD;
        }
        Sheet sheet = sheets[s];
        if (sheet.lost) {
            return find(NULL);
        }
        int before = shams.size;
        for (int i = 0; i + 1 < sheet.size && !shams.isFull(); i += 2) {
            if (!Shams.mayBe(sheet.items[i], sheet.items[i + 1])) {
                break;
            }
            shams.append(sheet.items[i], sheet.items[i + 1]);
        }
        resail();
        return shams.size - before;
    }

    // ---- steps

    public int lifts(int bridge, int boat) {
        if (!isBridge(bridge) || !isBoat(boat)) {
            return BAD;
        }
        return actual.isLifted(bridge, boat) ? 1 : 0;
    }

    public int at(int step, int boat) {
        if (!isWithin(step, STEPS) || !isBoat(boat)) {
            return BAD;
        }
        return actual.placeOf(step, boat);
    }

    public int passes(int bridge, int boat, int what) {
        if (!isBridge(bridge) || !isBoat(boat) || !isWithin(what, 2)) {
            return BAD;
        }
        if (what == 1) {
            return actual.hasSlipped(bridge, boat) ? 1 : 0;
        }
        int step = actual.passStep(bridge, boat);
        return step == NEVER ? NONE : step;
    }

    public int waits(int boat) {
        if (!isBoat(boat)) {
            return BAD;
        }
        return actual.waitOf(boat);
    }

    public int through(int step) {
        if (!isWithin(step, STEPS)) {
            return BAD;
        }
        return actual.throughBits(step);
    }

    public int first(int what) {
        if (!isWithin(what, 2)) {
            return BAD;
        }
        int step = NEVER;
        int least = NONE;
        for (int boat = 0; boat < boats.size; boat++) {
            int its = actual.firstWaitOf(boat);
            if (its < step) {
                step = its;
                least = boat;
            }
        }
        if (least == NONE) {
            return NONE;
        }
        return what == 0 ? step : least;
    }

    // ---- plans

    public int cargo(int boat, int i) {
        if (!isBoat(boat) || i < NONE || i > 1) {
            return BAD;
        }
        planCargo(boat);
        return plan.cargoAnswer(i);
    }

    public int sail(int boat, int what) {
        if (!isBoat(boat) || !isWithin(what, 2)) {
            return BAD;
        }
        planSail(boat);
        return what == 0 ? plan.which : plan.howMuch;
    }

    public int away(int what) {
        if (!isWithin(what, 2)) {
            return BAD;
        }
        planAway();
        return what == 0 ? plan.which : plan.howMuch;
    }

    // ---- seen, chance, loads

    public int seen(int step, int boat, int bridge) {
        if (!isWithin(step, STEPS) || !isWithin(boat, MOST) || !isWithin(bridge, MOST + 1)) {
            return BAD;
        }
        if (sightings.isFull()) {
            return FULL;
        }
        sightings.append(step, boat, bridge);
        return sightings.size;
    }

    public int forget() {
        int had = sightings.size;
        sightings.size = 0;
        return had;
    }

    public int liked(int bridge, int what) {
        if (!isBridge(bridge) || !isWithin(what, 2)) {
            return BAD;
        }
        return what == 0 ? likedMarks(bridge) : likedManies(bridge);
    }

    public int under(int boat) {
        if (!isBoat(boat)) {
            return BAD;
        }
        int bits = sightings.allHold(actual) ? 1 << MARKS : 0;
        loadAsCarried(boat);
        for (int mark = 0; mark < MARKS; mark++) {
            load[mark]++;
            tryLoad(boat);
            load[mark]--;
            if (sightings.allHold(trial)) {
                bits |= 1 << mark;
            }
        }
        return bits;
    }

    public int ask(int bridge, int step) {
        if (!isBridge(bridge) || !isWithin(step, STEPS)) {
            return BAD;
        }
        Arrays.fill(tally, 0);
        for (int mark = 0; mark < MARKS; mark++) {
            if (couldHaveBeen(bridge, mark, bridges.many[bridge])) {
                tallyPlaces(step);
            }
        }
        int best = NONE;
        int least = MARKS + 1;
        for (int boat = 0; boat < boats.size; boat++) {
            int greatest = greatestTally(boat);
            if (greatest < least) {
                least = greatest;
                best = boat;
            }
        }
        return best;
    }

    public long believed(int c, int boat, int step, int what) {
        if (!isWithin(c, SIXTEENTHS + 1) || !isBoat(boat) || !isWithin(step, STEPS) || !isWithin(what, 2)) {
            return LEAST_LONG - BAD;
        }
        fillBeliefs();
        long above = beliefs.above(c, boat, step);
        long below = beliefs.below();
        // Below is a power of two, so only twos can be taken out of both.
        for (; below > 1 && above % 2 == 0; below /= 2) {
            above /= 2;
        }
        return what == 0 ? above : below;
    }

    public int loads(int seed, int n, int boat, int what) {
        if (!isWithin(n, MARKS + 1) || !isBoat(boat) || !isWithin(what, 2)) {
            return BAD;
        }
        drawLoad(seed, n);
        tryLoad(boat);
        return what == 0 ? trial.placeOf(STEPS - 1, boat) : trial.waitOf(boat);
    }

    // ---- sheets

    public int sheet(int s, int form, int n) {
        if (!isWithin(s, SHEETS) || !isWithin(form, FORMS) || n > MOST_ITEMS) {
            return BAD;
        }
        if (n < 0) {
            return find(SIZE);
        }
        sheets[s].renew(form, n);
        return n;
    }

    public int lose(int s) {
        if (!isWithin(s, SHEETS)) {
            return BAD;
        }
        if (sheets[s].lost) {
            return find(NULL);
        }
        sheets[s].lost = true;
        return sheets[s].size;
    }

    public int lay(int s, int form, int i, int v) {
        if (!isWithin(s, SHEETS) || !isWithin(form, FORMS)) {
            return BAD;
        }
        int wrong = itemFinding(sheets[s], form, i);
        if (wrong != 0) {
            return find(wrong);
        }
        sheets[s].put(i, v);
        return 1;
    }

    public int get(int s, int form, int i) {
        if (!isWithin(s, SHEETS) || !isWithin(form, FORMS)) {
            return LEAST_INT;
        }
        int wrong = itemFinding(sheets[s], form, i);
        if (wrong != 0) {
            finding = wrong;
            return LEAST_INT;
        }
        return sheets[s].items[i];
    }

    public int copy(int s, int i, int t, int j, int n) {
        if (!isWithin(s, SHEETS) || !isWithin(t, SHEETS)) {
            return BAD;
        }
        Sheet from = sheets[s];
        Sheet to = sheets[t];
        if (from.lost || to.lost) {
            return find(NULL);
        }
        if (from.form != to.form) {
            return find(STORE);
        }
        if (!from.hasItems(i, n) || !to.hasItems(j, n)) {
            return find(INDEX);
        }
        System.arraycopy(from.items, i, to.items, j, n);
        return 1;
    }

    public int write(int step, int s) {
        if (!isWithin(step, STEPS) || !isWithin(s, SHEETS)) {
            return BAD;
        }
        Sheet sheet = sheets[s];
        if (sheet.lost) {
            return find(NULL);
        }
        int many = Math.min(sheet.size, boats.size);
        for (int boat = 0; boat < many; boat++) {
            sheet.put(boat, actual.placeOf(step, boat));
        }
        return many;
    }

    public int count(int what) {
        switch (what) {
            case 0: return bridges.size;
            case 1: return boats.size;
            case 2: return texts[BRIDGE_TEXT].size;
            case 3: return texts[BOAT_TEXT].size;
            case 4: return shams.size;
            case 5: return actual.throughCount();
            case 6: return actual.allWait();
            case 7: return sightings.size;
            case 8: return finding;
            default: return BAD;
        }
    }

    public long digest() {
        long h = 17;
        for (int what = 0; what < 8; what++) {
            h = 31 * h + count(what);
        }
        for (int text = 0; text < TEXTS; text++) {
            h = 31 * h + fault(text);
        }
        for (int bridge = 0; bridge < bridges.size; bridge++) {
            h = digestBridge(h, bridge);
        }
        for (int boat = 0; boat < boats.size; boat++) {
            h = digestBoat(h, boat);
        }
        h = 31 * h + through(9);
        h = 31 * h + first(0);
        h = 31 * h + first(1);
        planAway();
        h = 31 * h + plan.which;
        return 31 * h + plan.howMuch;
    }

    private long digestBridge(long before, int bridge) {
        long h = before;
        for (int what = 0; what < 3; what++) {
            h = 31 * h + bridges.part(bridge, what);
        }
        h = 31 * h + likedMarks(bridge);
        h = 31 * h + likedManies(bridge);
        h = 31 * h + ask(bridge, 5);
        for (int boat = 0; boat < boats.size; boat++) {
            h = 31 * h + lifts(bridge, boat);
            h = 31 * h + passes(bridge, boat, 0);
            h = 31 * h + passes(bridge, boat, 1);
        }
        return h;
    }

    private long digestBoat(long before, int boat) {
        long h = before;
        for (int what = 0; what <= MARKS; what++) {
            h = 31 * h + boat(boat, what);
        }
        h = 31 * h + at(5, boat);
        h = 31 * h + at(30, boat);
        h = 31 * h + waits(boat);
        planCargo(boat);
        h = 31 * h + plan.cargoAnswer(NONE);
        h = 31 * h + plan.cargoAnswer(0);
        planSail(boat);
        h = 31 * h + plan.which;
        h = 31 * h + plan.howMuch;
        h = 31 * h + under(boat);
        h = 31 * h + believed(5, boat, 20, 0);
        h = 31 * h + believed(5, boat, 20, 1);
        h = 31 * h + loads(7, 4, boat, 0);
        return 31 * h + loads(7, 4, boat, 1);
    }

    // ---- what the acts share

    private static boolean isWithin(int number, int bound) {
        return number >= 0 && number < bound;
    }

    private boolean isBridge(int bridge) {
        return isWithin(bridge, bridges.size);
    }

    private boolean isBoat(int boat) {
        return isWithin(boat, boats.size);
    }

    private int find(int number) {
        finding = number;
        return -10 - number;
    }

    private static int itemFinding(Sheet sheet, int form, int i) {
        if (sheet.lost) {
            return NULL;
        }
        if (sheet.form != form) {
            return CAST;
        }
        return isWithin(i, sheet.size) ? 0 : INDEX;
    }

    private void understand(int text) {
        if (text == BRIDGE_TEXT) {
            bridges.parse(texts[BRIDGE_TEXT]);
        } else {
            boats.parse(texts[BOAT_TEXT]);
        }
        resail();
    }

    private void resail() {
        beliefs.known = false;
        actual.bridgeCount = bridges.size;
        actual.boatCount = boats.size;
        System.arraycopy(boats.start, 0, actual.start, 0, MOST);
        for (int bridge = 0; bridge < bridges.size; bridge++) {
            actual.lift[bridge] = liftBits(bridge, bridges.mark[bridge], bridges.many[bridge]);
        }
        actual.run();
    }

    private int liftBits(int bridge, int mark, int many) {
        int bits = 0;
        for (int boat = 0; boat < boats.size; boat++) {
            if (bridges.wouldLift(bridge, mark, many, boats.marks[boat], shams.carried[boat])) {
                bits |= 1 << boat;
            }
        }
        return bits;
    }

    // ---- what would be, tried on the second voyage

    private void loadAsCarried(int boat) {
        System.arraycopy(boats.marks[boat], 0, load, 0, MARKS);
    }

    private void drawLoad(int seed, int n) {
        Arrays.fill(load, 0);
        int lot = seed;
        for (int i = 0; i < n; i++) {
            lot = 1103515245 * lot + 12345;
            load[(lot >>> 16) % MARKS]++;
        }
    }

    private void tryLoad(int boat) {
        trial.takeOver(actual);
        for (int bridge = 0; bridge < bridges.size; bridge++) {
            trial.setLifted(bridge, boat, bridges.wouldLift(bridge, bridges.mark[bridge], bridges.many[bridge],
                    load, shams.carried[boat]));
        }
        trial.run();
    }

    private void planCargo(int boat) {
        plan.setCargo(NONE, NONE, NONE);
        for (int row = 0; row < CARGO_ROWS; row++) {
            int marksMore = 0;
            loadAsCarried(boat);
            if (CARGO_FIRST[row] != NONE) {
                load[CARGO_FIRST[row]]++;
                marksMore++;
            }
            if (CARGO_SECOND[row] != NONE) {
                load[CARGO_SECOND[row]]++;
                marksMore++;
            }
            tryLoad(boat);
            if (trial.isThrough(STEPS - 1, boat)) {
                plan.setCargo(marksMore, CARGO_FIRST[row], CARGO_SECOND[row]);
                return;
            }
        }
    }

    private void planSail(int boat) {
        trial.takeOver(actual);
        plan.setBest(NONE, NONE);
        for (int start = 0; start < STARTS; start++) {
            trial.start[boat] = start;
            trial.run();
            int wait = trial.allWait();
            if (plan.which == NONE || wait < plan.howMuch) {
                plan.setBest(start, wait);
            }
        }
    }

    private void planAway() {
        plan.setBest(NONE, NONE);
        int leastWait = 0;
        for (int bridge = 0; bridge < bridges.size; bridge++) {
            trial.takeOver(actual);
            trial.takeAway(bridge);
            trial.run();
            int through = trial.throughCount();
            int wait = trial.allWait();
            if (through > plan.howMuch || through == plan.howMuch && wait < leastWait) {
                plan.setBest(bridge, through);
                leastWait = wait;
            }
        }
    }

    private boolean couldHaveBeen(int bridge, int mark, int many) {
        trial.takeOver(actual);
        trial.lift[bridge] = liftBits(bridge, mark, many);
        trial.run();
        return sightings.allHold(trial);
    }

    private int likedMarks(int bridge) {
        int bits = 0;
        for (int mark = 0; mark < MARKS; mark++) {
            if (couldHaveBeen(bridge, mark, bridges.many[bridge])) {
                bits |= 1 << mark;
            }
        }
        return bits;
    }

    private int likedManies(int bridge) {
        int bits = 0;
        for (int many = 1; many <= MOST_MANY; many++) {
            if (couldHaveBeen(bridge, bridges.mark[bridge], many)) {
                bits |= 1 << many;
            }
        }
        return bits;
    }

    private void tallyPlaces(int step) {
        for (int boat = 0; boat < boats.size; boat++) {
            // A boat that has not started is at place -1, so places are tallied one up.
            tally[boat * PLACES + trial.placeOf(step, boat) + 1]++;
        }
    }

    private int greatestTally(int boat) {
        int greatest = 0;
        for (int place = 0; place < PLACES; place++) {
            greatest = Math.max(greatest, tally[boat * PLACES + place]);
        }
        return greatest;
    }

    private void fillBeliefs() {
        if (beliefs.known) {
            return;
        }
        beliefs.shamCount = shams.size;
        for (int subset = 0; subset < 1 << shams.size; subset++) {
            shams.carryOnly(subset);
            trial.takeOver(actual);
            for (int bridge = 0; bridge < bridges.size; bridge += 2) {
                trial.lift[bridge] = liftBits(bridge, bridges.mark[bridge], bridges.many[bridge]);
            }
            trial.run();
            beliefs.keep(subset, trial);
        }
        shams.carryAll();
        beliefs.known = true;
    }

    /** The bytes of a text. */
    private static final class Text {
        private final int[] bytes;
        private int size;

        Text(int most) {
            bytes = new int[most];
        }

        boolean isFull() {
            return size >= bytes.length;
        }

        void append(int b) {
            if (!isFull()) {
                bytes[size] = b;
                size++;
            }
        }

        /** The byte at a place, less another one; out of every range where there is none. */
        int from(int place, char zero) {
            return place >= 0 && place < size ? bytes[place] - zero : NONE - 256;
        }
    }

    /** The bridges that a text tells. */
    private static final class Bridges {
        private final int[] kind = new int[MOST];
        private final int[] mark = new int[MOST];
        private final int[] many = new int[MOST];
        private int size;
        private int faultPlace = NONE;

        void parse(Text text) {
            size = 0;
            faultPlace = text.size == 0 ? NONE : parseAll(text);
            if (faultPlace != NONE) {
                size = 0;
            }
        }

        private int parseAll(Text text) {
            int place = 0;
            for (int bridge = 0; bridge < MOST; bridge++) {
                kind[bridge] = kindAt(text, place);
                if (kind[bridge] == NONE) {
                    return place;
                }
                mark[bridge] = text.from(place + 1, 'a');
                if (!isWithin(mark[bridge], MARKS)) {
                    return place + 1;
                }
                many[bridge] = text.from(place + 2, '0');
                if (many[bridge] < 1 || many[bridge] > MOST_MANY) {
                    return place + 2;
                }
                size = bridge + 1;
                place += 3;
                if (place == text.size) {
                    return NONE;
                }
                if (text.from(place, ';') != 0) {
                    return place;
                }
                place++;
            }
            return place;
        }

        private static int kindAt(Text text, int place) {
            switch (text.from(place, 'l')) {
                case 0: return LIKES;
                case 'n' - 'l': return SNUBS;
                case 'm' - 'l': return WEIGHS;
                default: return NONE;
            }
        }

        int part(int bridge, int what) {
            if (!isWithin(bridge, MOST)) {
                return BAD;
            }
            switch (what) {
                case 0: return kind[bridge];
                case 1: return mark[bridge];
                default: return many[bridge];
            }
        }

        /** Whether a bridge, were its mark and how many these, would lift for what a boat carries. */
        boolean wouldLift(int bridge, int itsMark, int itsMany, int[] marks, int[] shamMarks) {
            boolean believes = bridge % 2 == 0;
            int carried = marks[itsMark] + (believes ? shamMarks[itsMark] : 0);
            if (kind[bridge] == LIKES) {
                return carried >= itsMany;
            }
            if (kind[bridge] == SNUBS) {
                return carried < itsMany;
            }
            int worth = worthOf(marks) + (believes ? worthOf(shamMarks) : 0);
            return worth >= 3 * itsMany && carried > 0;
        }

        private static int worthOf(int[] marks) {
            int worth = 0;
            for (int m = 0; m < MARKS; m++) {
                worth += marks[m] * (m + 1);
            }
            return worth;
        }
    }

    /** The boats that a text tells. */
    private static final class Boats {
        private final int[][] marks = new int[MOST][MARKS];
        private final int[] start = new int[MOST];
        private int size;
        private int faultPlace = NONE;

        void parse(Text text) {
            size = 0;
            faultPlace = text.size == 0 ? NONE : parseAll(text);
            if (faultPlace != NONE) {
                size = 0;
            }
        }

        private int parseAll(Text text) {
            int place = 0;
            for (int boat = 0; boat < MOST; boat++) {
                place += parseMarks(text, place, marks[boat]);
                start[boat] = text.from(place, '0');
                if (!isWithin(start[boat], STARTS)) {
                    return place;
                }
                size = boat + 1;
                place++;
                if (place == text.size) {
                    return NONE;
                }
                if (text.from(place, ';') != 0) {
                    return place;
                }
                place++;
            }
            return place;
        }

        /** Takes up to six marks: how many bytes they are. */
        private static int parseMarks(Text text, int place, int[] its) {
            Arrays.fill(its, 0);
            for (int taken = 0; taken < MARKS; taken++) {
                int mark = text.from(place + taken, 'a');
                if (!isWithin(mark, MARKS)) {
                    return taken;
                }
                its[mark]++;
            }
            return MARKS;
        }
    }

    /** The shams, in the order in which they came, and what they make each boat carry. */
    private static final class Shams {
        private final int[] boat = new int[MOST];
        private final int[] mark = new int[MOST];
        private final int[][] carried = new int[MOST][MARKS];
        private int size;

        static boolean mayBe(int boat, int mark) {
            return isWithin(boat, MOST) && isWithin(mark, MARKS);
        }

        boolean isFull() {
            return size >= MOST;
        }

        void append(int itsBoat, int itsMark) {
            if (!isFull() && mayBe(itsBoat, itsMark)) {
                boat[size] = itsBoat;
                mark[size] = itsMark;
                size++;
                carried[itsBoat][itsMark]++;
            }
        }

        void dropLast() {
            if (size > 0) {
                size--;
                carried[boat[size]][mark[size]]--;
            }
        }

        void carryAll() {
            carryOnly(SUBSETS - 1);
        }

        void carryOnly(int subset) {
            for (int b = 0; b < MOST; b++) {
                Arrays.fill(carried[b], 0);
            }
            for (int i = 0; i < size; i++) {
                carried[boat[i]][mark[i]] += subset >> i & 1;
            }
        }
    }

    /** Where boats were seen. */
    private static final class Sightings {
        private final int[] step = new int[MOST];
        private final int[] boat = new int[MOST];
        private final int[] bridge = new int[MOST];
        private int size;

        boolean isFull() {
            return size >= MOST;
        }

        void append(int itsStep, int itsBoat, int itsBridge) {
            if (!isFull()) {
                step[size] = itsStep;
                boat[size] = itsBoat;
                bridge[size] = itsBridge;
                size++;
            }
        }

        boolean allHold(Voyage voyage) {
            for (int i = 0; i < size; i++) {
                // A place seen is never NONE, so a boat that has not started does not fit.
                if (boat[i] >= voyage.boatCount || voyage.placeOf(step[i], boat[i]) != bridge[i]) {
                    return false;
                }
            }
            return true;
        }
    }

    /** All steps of one setting: for whom each bridge lifts, when each boat starts, and what comes of it. */
    private static final class Voyage {
        private final int[] lift = new int[MOST];
        private final int[] start = new int[MOST];
        private final int[] waiting = new int[MOST + 1];
        private final int[] pass = new int[MOST * MOST];
        private final int[] slipped = new int[MOST];
        private int bridgeCount;
        private int boatCount;

        void takeOver(Voyage other) {
            bridgeCount = other.bridgeCount;
            boatCount = other.boatCount;
            System.arraycopy(other.lift, 0, lift, 0, MOST);
            System.arraycopy(other.start, 0, start, 0, MOST);
        }

        void takeAway(int bridge) {
            if (isWithin(bridge, bridgeCount)) {
                bridgeCount--;
                System.arraycopy(lift, bridge + 1, lift, bridge, bridgeCount - bridge);
            }
        }

        void setLifted(int bridge, int boat, boolean lifted) {
            int bit = 1 << boat;
            lift[bridge] = lifted ? lift[bridge] | bit : lift[bridge] & ~bit;
        }

        void run() {
            Arrays.fill(waiting, 0);
            Arrays.fill(pass, NEVER);
            Arrays.fill(slipped, 0);
            boolean moved = true;
            // When all have started and none goes on, none ever will.
            for (int step = 0; step < STEPS && (moved || step < STARTS); step++) {
                if (step < STARTS) {
                    letStart(step);
                }
                moved = letGoOn(step);
            }
        }

        private void letStart(int step) {
            for (int boat = 0; boat < boatCount; boat++) {
                if (start[boat] == step) {
                    waiting[0] |= 1 << boat;
                }
            }
        }

        private boolean letGoOn(int step) {
            boolean moved = false;
            for (int bridge = bridgeCount - 1; bridge >= 0; bridge--) {
                int lifted = leastOf(waiting[bridge] & lift[bridge]);
                if (lifted == NONE) {
                    continue;
                }
                moved = true;
                letOver(bridge, lifted, step);
                int behind = leastOf(waiting[bridge]);
                if (behind != NONE) {
                    letOver(bridge, behind, step);
                    slipped[bridge] |= 1 << behind;
                }
            }
            return moved;
        }

        private void letOver(int bridge, int boat, int step) {
            pass[bridge * MOST + boat] = step;
            waiting[bridge] &= ~(1 << boat);
            waiting[bridge + 1] |= 1 << boat;
        }

        private static int leastOf(int bits) {
            if (bits == 0) {
                return NONE;
            }
            for (int boat = 0; boat < MOST; boat++) {
                if ((bits >> boat & 1) != 0) {
                    return boat;
                }
            }
            return NONE;
        }

        boolean isLifted(int bridge, int boat) {
            return (lift[bridge] >> boat & 1) != 0;
        }

        boolean hasSlipped(int bridge, int boat) {
            return (slipped[bridge] >> boat & 1) != 0;
        }

        int passStep(int bridge, int boat) {
            return pass[bridge * MOST + boat];
        }

        int placeOf(int step, int boat) {
            if (start[boat] > step) {
                return NONE;
            }
            int place = 0;
            while (place < bridgeCount && passStep(place, boat) <= step) {
                place++;
            }
            return place;
        }

        boolean isThrough(int step, int boat) {
            return placeOf(step, boat) == bridgeCount;
        }

        int throughBits(int step) {
            int bits = 0;
            for (int boat = 0; boat < boatCount; boat++) {
                if (isThrough(step, boat)) {
                    bits |= 1 << boat;
                }
            }
            return bits;
        }

        int throughCount() {
            return Integer.bitCount(throughBits(STEPS - 1));
        }

        /** The step behind which a boat is through, or NEVER. */
        int throughStep(int boat) {
            return bridgeCount == 0 ? start[boat] : passStep(bridgeCount - 1, boat);
        }

        /** Of the steps in which a boat is at a bridge it waits in all but those in which it goes on. */
        int waitOf(int boat) {
            if (bridgeCount == 0) {
                return 0;
            }
            int behind = Math.min(throughStep(boat) + 1, STEPS);
            return behind - start[boat] - placeOf(STEPS - 1, boat);
        }

        int allWait() {
            int sum = 0;
            for (int boat = 0; boat < boatCount; boat++) {
                sum += waitOf(boat);
            }
            return sum;
        }

        /** A boat that never waits goes over one bridge in every step from its start on. */
        int firstWaitOf(int boat) {
            for (int bridge = 0; bridge < bridgeCount; bridge++) {
                if (passStep(bridge, boat) != start[boat] + bridge) {
                    return start[boat] + bridge;
                }
            }
            return NEVER;
        }
    }

    /** What the last plan came to. */
    private static final class Plan {
        private int marksMore;
        private int firstMark;
        private int secondMark;
        private int which;
        private int howMuch;

        void setCargo(int many, int mark, int next) {
            marksMore = many;
            firstMark = mark;
            secondMark = next;
        }

        int cargoAnswer(int i) {
            if (i == NONE) {
                return marksMore;
            }
            return i == 0 ? firstMark : secondMark;
        }

        void setBest(int its, int much) {
            which = its;
            howMuch = much;
        }
    }

    /** By which of the shams, if they alone are believed, each boat is through behind which step. */
    private static final class Beliefs {
        // Eight bits for each boat.
        private final long[] throughSteps = new long[SUBSETS];
        private final int[] bySize = new int[MOST + 1];
        private int shamCount;
        private boolean known;

        void keep(int subset, Voyage voyage) {
            long packed = 0;
            for (int boat = 0; boat < voyage.boatCount; boat++) {
                packed |= (long) voyage.throughStep(boat) << (8 * boat);
            }
            throughSteps[subset] = packed;
        }

        /** The chance that a boat is through behind a step, times 16 for each sham. */
        long above(int c, int boat, int step) {
            countBySize(boat, step);
            long sum = 0;
            for (int size = 0; size <= shamCount; size++) {
                sum += bySize[size] * power(c, size) * power(SIXTEENTHS - c, shamCount - size);
            }
            return sum;
        }

        long below() {
            return power(SIXTEENTHS, shamCount);
        }

        private void countBySize(int boat, int step) {
            Arrays.fill(bySize, 0);
            for (int subset = 0; subset < 1 << shamCount; subset++) {
                if ((throughSteps[subset] >> (8 * boat) & 255) <= step) {
                    bySize[Integer.bitCount(subset)]++;
                }
            }
        }

        private static long power(int base, int times) {
            long product = 1;
            for (int i = 0; i < times; i++) {
                product *= base;
            }
            return product;
        }
    }

    /** A row of items, or a lost one. */
    private static final class Sheet {
        private final int[] items = new int[MOST_ITEMS];
        private int form;
        private int size;
        private boolean lost = true;

        void renew(int itsForm, int n) {
            Arrays.fill(items, 0);
            form = itsForm;
            size = n;
            lost = false;
        }

        void put(int i, int v) {
            if (form == BYTES) {
                items[i] = (byte) v;
            } else if (form == SHORTS) {
                items[i] = (short) v;
            } else {
                items[i] = v;
            }
        }

        boolean hasItems(int from, int n) {
            return from >= 0 && n >= 0 && n <= size && from <= size - n;
        }
    }
}
