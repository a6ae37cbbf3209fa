/**
 * A wind farm with a store of things, parts that wear, plans that are acted and turbines that go step by step.
 * The numbered promises that it keeps are in the project's document.
 */
public final class WindPark {
    public static final int NONE = -1, UNKNOWN = -2, OUTSIDE = -3, STATE = -4, ROOM = -5;

    // Failures are kept in the form in which they are answered, -10 less their number, so that
    // 0 stays free for "no failure" and one int can carry either.
    private static final int NOTHING = -11, INDEX = -12, SIZE = -13, CAST = -14, STORE = -15;
    private static final int ZERO = -16, HOLD = -17, DEEP = -18, SPENT = -19;

    private static final int CASES = 24, LANES = 8, MOST_ITEMS = 30, MOST_ROWS = 8, MOST_IN_ROW = 12;
    private static final int MOST_PLACES = 8, MOST_PARTS = 60, MOST_LOAD = 10000;
    private static final int BYTES = 0, SHORTS = 1, CHARS = 2, INTS = 3, LONGS = 4, FLOATS = 5, DOUBLES = 6;
    private static final int GRID = 8, CRADLE = 9, PART = 10;
    private static final int SONIC = 2, DRIVE = 3, PITCH = 4, BLADE = 5, HEAVY = 6, SENSOR = 7;
    private static final int SENSORS = 3, SLOTS = 5, DRIVE_SLOT = 3, BLADE_SLOT = 4;
    private static final int WAITING = 0, STARTING = 1, MAKING = 2, STOPPING = 3, FAILED = 4;

    private final Thing[] cases;
    private final Trace trace;
    private final Farm farm;
    private final Acts acts;
    private final long[] measured;
    private int partsCame;
    private int reason;

    public WindPark(int turbines) {
        cases = new Thing[CASES];
        trace = new Trace();
        farm = new Farm(Math.max(1, Math.min(6, turbines)));
        acts = new Acts();
        measured = new long[MOST_ITEMS];
    }

    // ---- the store

    public int row(int c, int lane, int n) {
        reason = 0;
        if (!isCase(c)) {
            return refuse(UNKNOWN);
        }
        if (!isLane(lane) || n > MOST_ITEMS) {
            return refuse(OUTSIDE);
        }
        if (n < 0) {
            return refuse(SIZE);
        }
        cases[c] = new Row(lane, n);
        return n;
    }

    public int grid(int c, int n, int m) {
        reason = 0;
        if (!isCase(c)) {
            return refuse(UNKNOWN);
        }
        if (n > MOST_ROWS || m > MOST_IN_ROW) {
            return refuse(OUTSIDE);
        }
        if (n < 0 || m < -1) {
            return refuse(SIZE);
        }
        Shelf grid = new Shelf(Shelf.FOR_ROWS, n);
        if (m >= 0) {
            for (int i = 0; i < n; i++) {
                grid.places[i] = new Row(INTS, m);
            }
        }
        cases[c] = grid;
        return n;
    }

    public int cradle(int c, int kind, int n) {
        reason = 0;
        if (!isCase(c)) {
            return refuse(UNKNOWN);
        }
        if (!isKind(kind) || n > MOST_PLACES) {
            return refuse(OUTSIDE);
        }
        if (n < 0) {
            return refuse(SIZE);
        }
        cases[c] = new Shelf(kind, n);
        return n;
    }

    public int part(int c, int kind) {
        reason = 0;
        if (!isCase(c)) {
            return refuse(UNKNOWN);
        }
        if (!isKind(kind) || kind == SENSOR) {
            return refuse(OUTSIDE);
        }
        if (partsCame >= MOST_PARTS) {
            return refuse(ROOM);
        }
        int serial = partsCame;
        partsCame++;
        cases[c] = new Part(kind, serial);
        return serial;
    }

    public int set(int c, int d) {
        reason = 0;
        if (!isCase(c) || !isCase(d)) {
            return refuse(UNKNOWN);
        }
        if (cases[d] == cases[c]) {
            return 0;
        }
        cases[d] = cases[c];
        return 1;
    }

    public int clear(int c) {
        reason = 0;
        if (!isCase(c)) {
            return refuse(UNKNOWN);
        }
        if (cases[c] == null) {
            return 0;
        }
        cases[c] = null;
        return 1;
    }

    public int holds(int c) {
        reason = 0;
        if (!isCase(c)) {
            return refuse(UNKNOWN);
        }
        Thing thing = cases[c];
        return thing == null ? NONE : thing.sort();
    }

    public int put(int c, int lane, int i, long bits) {
        reason = 0;
        Row row = rowToUse(c, lane, i);
        if (row == null) {
            return reason;
        }
        row.items[i] = Row.fitted(lane, bits);
        return 1;
    }

    public long get(int c, int lane, int i) {
        reason = 0;
        Row row = rowToUse(c, lane, i);
        return row == null ? 0L : row.items[i];
    }

    public int putAt(int c, int i, int j, int v) {
        reason = 0;
        Row row = gridRowToUse(c, i, j);
        if (row == null) {
            return reason;
        }
        row.items[j] = v;
        return 1;
    }

    public int getAt(int c, int i, int j) {
        reason = 0;
        Row row = gridRowToUse(c, i, j);
        return row == null ? 0 : (int) row.items[j];
    }

    public int link(int c, int i, int d) {
        reason = 0;
        if (!isCase(c) || !isCase(d)) {
            return refuse(UNKNOWN);
        }
        return layOnShelf(c, GRID, i, d, INTS);
    }

    public int lay(int c, int i, int d) {
        reason = 0;
        if (!isCase(c) || !isCase(d)) {
            return refuse(UNKNOWN);
        }
        return layOnShelf(c, CRADLE, i, d, PART);
    }

    public int lift(int c, int i, int kind, int d) {
        reason = 0;
        if (!isCase(c) || !isCase(d)) {
            return refuse(UNKNOWN);
        }
        if (!isKind(kind)) {
            return refuse(OUTSIDE);
        }
        Shelf cradle = shelfIn(c, CRADLE);
        if (cradle == null) {
            return reason;
        }
        if (!cradle.reaches(i, 1)) {
            return refuse(INDEX);
        }
        Thing thing = cradle.places[i];
        if (thing instanceof Part part && !part.isOf(kind)) {
            return refuse(CAST);
        }
        cases[d] = thing;
        return 1;
    }

    public int copy(int c, int i, int d, int j, int n) {
        reason = 0;
        if (!isCase(c) || !isCase(d)) {
            return refuse(UNKNOWN);
        }
        Thing from = cases[c];
        Thing to = cases[d];
        if (from == null || to == null) {
            return refuse(NOTHING);
        }
        if (!from.mayCopyTo(to)) {
            return refuse(STORE);
        }
        if (!from.reaches(i, n) || !to.reaches(j, n)) {
            return refuse(INDEX);
        }
        int code = from.copyTo(to, i, j, n);
        return code < 0 ? refuse(code) : n;
    }

    public int length(int c, int as) {
        reason = 0;
        if (!isCase(c)) {
            return refuse(UNKNOWN);
        }
        if (as < 0 || as > CRADLE) {
            return refuse(OUTSIDE);
        }
        Thing thing = cases[c];
        if (thing == null) {
            return refuse(NOTHING);
        }
        return thing.sort() == as ? thing.size() : refuse(CAST);
    }

    public int alike(int c, int d) {
        reason = 0;
        if (!isCase(c) || !isCase(d)) {
            return refuse(UNKNOWN);
        }
        Thing one = cases[c];
        Thing other = cases[d];
        if (one == other) {
            return 1;
        }
        return one != null && other != null && one.isLike(other) ? 2 : 0;
    }

    // ---- parts

    public long ask(int c, int member, int load) {
        reason = 0;
        if (!isCase(c)) {
            return refuseWithZero(UNKNOWN);
        }
        if (member < 0 || member > 2 || load < 0 || load > MOST_LOAD) {
            return refuseWithZero(OUTSIDE);
        }
        Part part = partIn(c);
        if (part == null) {
            return 0L;
        }
        if (member == 0) {
            return part.limit(trace);
        }
        if (member == 1) {
            return part.cost(trace);
        }
        int code = part.wearBy(load, trace);
        return code < 0 ? refuseWithZero(code) : part.lastWear;
    }

    public long told(int c, int what) {
        reason = 0;
        if (!isCase(c)) {
            return refuseWithZero(UNKNOWN);
        }
        if (what < 0 || what > 2) {
            return refuseWithZero(OUTSIDE);
        }
        Part part = partIn(c);
        if (part == null) {
            return 0L;
        }
        return what == 0 ? part.kind : what == 1 ? part.serial : part.wear;
    }

    public int traced(int i) {
        reason = 0;
        return i >= 0 && i < trace.kept ? trace.bodies[i] : NONE;
    }

    public int forget() {
        reason = 0;
        int had = trace.kept;
        trace.kept = 0;
        return had;
    }

    // ---- seconds

    public long seconds(int c, int lane, int what) {
        reason = 0;
        if (!isCase(c)) {
            return refuseWithZero(UNKNOWN);
        }
        if (!isMeasuring(lane) || what < 0 || what > 5) {
            return refuseWithZero(OUTSIDE);
        }
        Row row = rowIn(c, lane);
        if (row == null) {
            return 0L;
        }
        int n = measure(row);
        switch (what) {
            case 0:
            case 1:
            case 3:
                return n == 0 ? Numbers.NO_NUMBER : ranked(n, what);
            case 2:
                return Numbers.meanOf(measured, n);
            case 4:
                return n == 0 ? refuseWithZero(ZERO) : Numbers.wholeSumOf(measured, n) / n;
            default:
                return n;
        }
    }

    public int test(int c, int lane, int i, int j, int t) {
        reason = 0;
        if (!isCase(c)) {
            return refuse(UNKNOWN);
        }
        if (!isMeasuring(lane) || t < 0 || t > 11) {
            return refuse(OUTSIDE);
        }
        Row row = rowIn(c, lane);
        if (row == null) {
            return reason;
        }
        if (!row.reaches(i, 1) || !row.reaches(j, 1)) {
            return refuse(INDEX);
        }
        boolean denied = t >= 6;
        boolean passes = Numbers.passes(row.doubleBits(i), row.doubleBits(j), denied ? t - 6 : t);
        return passes == denied ? 0 : 1;
    }

    // ---- acts

    public int step(int plan, int op, int a, int b, int c) {
        reason = 0;
        if (!Acts.isPlan(plan)) {
            return refuse(UNKNOWN);
        }
        if (op < 0 || op > Acts.STRIP) {
            return refuse(OUTSIDE);
        }
        if (!isKnownToStep(op, a, b, c)) {
            return refuse(UNKNOWN);
        }
        if (op == Acts.FAIL && (a < 1 || a > 8) || op == Acts.TRY && (b < 0 || b > 8)) {
            return refuse(OUTSIDE);
        }
        if (acts.lengths[plan] >= Acts.MOST_STEPS) {
            return refuse(ROOM);
        }
        return acts.addStep(plan, op, a, b, c);
    }

    public int drop(int plan) {
        reason = 0;
        if (!Acts.isPlan(plan)) {
            return refuse(UNKNOWN);
        }
        int had = acts.lengths[plan];
        acts.lengths[plan] = 0;
        return had;
    }

    public int act(int plan) {
        reason = 0;
        if (!Acts.isPlan(plan)) {
            return refuse(UNKNOWN);
        }
        int outcome = acts.perform(plan, cases, farm.turbines);
        return outcome < 0 ? refuse(outcome) : outcome;
    }

    public int acted(int what) {
        reason = 0;
        switch (what) {
            case 0:
                return acts.answer;
            case 1:
                return acts.stepsBegun;
            case 2:
                return acts.deepest;
            case 3:
                return acts.timesSaid;
            case 4:
                return acts.cause;
            case 5:
                return acts.wentBack;
            default:
                return refuse(OUTSIDE);
        }
    }

    public int said(int i) {
        reason = 0;
        return i >= 0 && i < acts.timesSaid && i < Acts.MOST_SAID ? acts.log[i] : 0;
    }

    // ---- turbines

    public int place(int t, int x, int y) {
        reason = 0;
        if (!isTurbine(t)) {
            return refuse(UNKNOWN);
        }
        if (x < -100 || x > 100 || y < -100 || y > 100) {
            return refuse(OUTSIDE);
        }
        farm.turbines[t].x = x;
        farm.turbines[t].y = y;
        return 1;
    }

    public int read(int t, int sensor, long bits) {
        reason = 0;
        if (!isTurbine(t) || sensor < 0 || sensor >= SENSORS) {
            return refuse(UNKNOWN);
        }
        if (Numbers.isNumber(bits) && Numbers.sizeOf(bits) > Numbers.THOUSAND) {
            return refuse(OUTSIDE);
        }
        farm.turbines[t].readings[sensor] = Row.fitted(DOUBLES, bits);
        return 1;
    }

    public int wind(int direction, boolean cold) {
        reason = 0;
        if (direction < 0 || direction > 7) {
            return refuse(OUTSIDE);
        }
        farm.direction = direction;
        farm.cold = cold;
        return 1;
    }

    public int bound(int t, long bits) {
        reason = 0;
        if (!isTurbine(t)) {
            return refuse(UNKNOWN);
        }
        // -0.0 has the sign but is not below 0.0.
        if (!Numbers.isNumber(bits) || bits < 0 && Numbers.sizeOf(bits) != 0) {
            return refuse(OUTSIDE);
        }
        farm.turbines[t].bound = Numbers.valueOf(bits);
        return 1;
    }

    public int run(int n) {
        reason = 0;
        if (n < 1 || n > 40) {
            return refuse(OUTSIDE);
        }
        return farm.go(n, trace);
    }

    public int reset(int t) {
        reason = 0;
        if (!isTurbine(t)) {
            return refuse(UNKNOWN);
        }
        if (farm.turbines[t].state != FAILED) {
            return refuse(STATE);
        }
        farm.turbines[t].state = WAITING;
        return 1;
    }

    public long of(int t, int what) {
        reason = 0;
        if (!isTurbine(t)) {
            return refuseWithZero(UNKNOWN);
        }
        if (what < 0 || what >= 8 + SLOTS) {
            return refuseWithZero(OUTSIDE);
        }
        return farm.turbines[t].tell(what);
    }

    public int finding(int i, int what) {
        reason = 0;
        if (what < 0 || what > 3) {
            return refuse(OUTSIDE);
        }
        return i >= 0 && i < farm.findingsKept ? farm.findings[i * 4 + what] : NONE;
    }

    public int why() {
        return reason;
    }

    public int count(int what) {
        reason = 0;
        switch (what) {
            case 0:
                return farm.turbines.length;
            case 1:
                return partsCame;
            case 2:
                return filledCases();
            case 3:
                return farm.steps;
            case 4:
                return farm.findingsKept;
            case 5:
                return trace.kept;
            default:
                return refuse(OUTSIDE);
        }
    }

    // ---- what the calls share

    private int refuse(int code) {
        reason = code;
        return code;
    }

    private long refuseWithZero(int code) {
        reason = code;
        return 0L;
    }

    private static boolean isCase(int c) {
        return c >= 0 && c < CASES;
    }

    private static boolean isLane(int lane) {
        return lane >= 0 && lane < LANES;
    }

    private static boolean isMeasuring(int lane) {
        return lane == FLOATS || lane == DOUBLES;
    }

    private static boolean isKind(int kind) {
        return kind >= 0 && kind <= SENSOR;
    }

    private boolean isTurbine(int t) {
        return t >= 0 && t < farm.turbines.length;
    }

    /** Null, with the reason told, where the case holds no row of the lane. */
    private Row rowIn(int c, int lane) {
        Thing thing = cases[c];
        if (thing instanceof Row row && row.lane == lane) {
            return row;
        }
        reason = thing == null ? NOTHING : CAST;
        return null;
    }

    /** Null, with the reason told, where the case holds no shelf of that sort. */
    private Shelf shelfIn(int c, int sort) {
        Thing thing = cases[c];
        if (thing instanceof Shelf shelf && shelf.sort() == sort) {
            return shelf;
        }
        reason = thing == null ? NOTHING : CAST;
        return null;
    }

    /** Null, with the reason told, where the case holds no part. */
    private Part partIn(int c) {
        Thing thing = cases[c];
        if (thing instanceof Part part) {
            return part;
        }
        reason = thing == null ? NOTHING : CAST;
        return null;
    }

    /** The row whose item i may be used; null, with the reason told, if there is none. */
    private Row rowToUse(int c, int lane, int i) {
        if (!isCase(c)) {
            reason = UNKNOWN;
            return null;
        }
        if (!isLane(lane)) {
            reason = OUTSIDE;
            return null;
        }
        Row row = rowIn(c, lane);
        if (row != null && !row.reaches(i, 1)) {
            reason = INDEX;
            return null;
        }
        return row;
    }

    /** Row i of a grid whose item j may be used; null, with the reason told, if there is none. */
    private Row gridRowToUse(int c, int i, int j) {
        if (!isCase(c)) {
            reason = UNKNOWN;
            return null;
        }
        Shelf grid = shelfIn(c, GRID);
        if (grid == null) {
            return null;
        }
        if (!grid.reaches(i, 1)) {
            reason = INDEX;
            return null;
        }
        if (grid.places[i] instanceof Row row) {
            reason = row.reaches(j, 1) ? 0 : INDEX;
            return reason == 0 ? row : null;
        }
        reason = NOTHING;
        return null;
    }

    /** Both casts come ahead of the missing shelf, as the document orders them. */
    private int layOnShelf(int c, int shelfSort, int i, int d, int thingSort) {
        Thing thing = cases[d];
        Shelf shelf = shelfIn(c, shelfSort);
        if (reason == CAST || thing != null && thing.sort() != thingSort) {
            return refuse(CAST);
        }
        if (shelf == null) {
            return refuse(NOTHING);
        }
        if (!shelf.reaches(i, 1)) {
            return refuse(INDEX);
        }
        if (!shelf.welcomes(thing)) {
            return refuse(STORE);
        }
        shelf.places[i] = thing;
        return 1;
    }

    /** Gathers the items that are numbers, as doubles' bits in their order: how many. */
    private int measure(Row row) {
        int n = 0;
        for (int i = 0; i < row.items.length && n < measured.length; i++) {
            long bits = row.doubleBits(i);
            if (Numbers.isNumber(bits)) {
                measured[n] = bits;
                n++;
            }
        }
        return n;
    }

    private long ranked(int n, int what) {
        Numbers.sort(measured, n);
        return what == 0 ? measured[n - 1] : what == 1 ? measured[0] : measured[(n - 1) / 2];
    }

    private boolean isKnownToStep(int op, int a, int b, int c) {
        switch (op) {
            case Acts.TAKE:
            case Acts.LAY:
            case Acts.WRITE:
                return isCase(a);
            case Acts.DO:
                return Acts.isPlan(a);
            case Acts.TRY:
                return Acts.isPlan(a) && Acts.isPlan(c);
            case Acts.FINALLY:
                return Acts.isPlan(a) && Acts.isPlan(b);
            case Acts.HOLDING:
                return isTurbine(a) && Acts.isPlan(b);
            case Acts.WAKE:
                return isTurbine(a);
            case Acts.FIT:
            case Acts.STRIP:
                return isTurbine(a) && b >= 0 && b < SLOTS;
            default:
                return true;
        }
    }

    private int filledCases() {
        int filled = 0;
        for (int c = 0; c < CASES; c++) {
            if (cases[c] != null) {
                filled++;
            }
        }
        return filled;
    }

    /** What a case may hold. */
    private abstract static class Thing {
        /** As the document numbers what cases hold: a lane, a grid, a cradle, a part. */
        abstract int sort();

        abstract int size();

        abstract boolean isLike(Thing other);

        abstract boolean mayCopyTo(Thing other);

        /** To one that it may be copied to, within what both reach: 0, or the failure that it met. */
        abstract int copyTo(Thing other, int i, int j, int n);

        boolean reaches(int i, int n) {
            return i >= 0 && n >= 0 && n <= size() - i;
        }
    }

    /** A row of a lane. Its items are kept as bits: a double in the machine's hands could be no number. */
    private static final class Row extends Thing {
        final int lane;
        final long[] items;

        Row(int lane, int n) {
            this.lane = lane;
            this.items = new long[n];
        }

        static long fitted(int lane, long bits) {
            switch (lane) {
                case BYTES:
                    return (byte) bits;
                case SHORTS:
                    return (short) bits;
                case CHARS:
                    return (char) bits;
                case INTS:
                    return (int) bits;
                case LONGS:
                    return bits;
                case FLOATS:
                    return Numbers.isFloatNumber((int) bits) ? (int) bits : Numbers.NO_FLOAT;
                case DOUBLES:
                    return Numbers.isNumber(bits) ? bits : Numbers.NO_NUMBER;
                default:
                    return bits & 1L;
            }
        }

        /** Of a row of floats or doubles alone. */
        long doubleBits(int i) {
            return lane == FLOATS ? Numbers.widened((int) items[i]) : items[i];
        }

        int sort() {
            return lane;
        }

        int size() {
            return items.length;
        }

        boolean isLike(Thing other) {
            if (!(other instanceof Row row) || row.lane != lane || row.items.length != items.length) {
                return false;
            }
            for (int i = 0; i < items.length; i++) {
                if (items[i] != row.items[i]) {
                    return false;
                }
            }
            return true;
        }

        boolean mayCopyTo(Thing other) {
            return other.sort() == lane;
        }

        int copyTo(Thing other, int i, int j, int n) {
            if (!(other instanceof Row row)) {
                return STORE;
            }
            System.arraycopy(items, i, row.items, j, n);
            return 0;
        }
    }

    /** A grid (for rows of ints) or a cradle (for parts of a kind): places, some perhaps missing their thing. */
    private static final class Shelf extends Thing {
        static final int FOR_ROWS = -1;

        final int kind;
        final Thing[] places;

        Shelf(int kind, int n) {
            this.kind = kind;
            this.places = new Thing[n];
        }

        boolean welcomes(Thing thing) {
            if (thing == null) {
                return true;
            }
            if (kind == FOR_ROWS) {
                return thing.sort() == INTS;
            }
            return thing instanceof Part part && part.isOf(kind);
        }

        int sort() {
            return kind == FOR_ROWS ? GRID : CRADLE;
        }

        int size() {
            return places.length;
        }

        boolean isLike(Thing other) {
            if (!(other instanceof Shelf shelf) || shelf.kind != kind || shelf.places.length != places.length) {
                return false;
            }
            for (int i = 0; i < places.length; i++) {
                if (!isSame(places[i], shelf.places[i])) {
                    return false;
                }
            }
            return true;
        }

        /** Rows are the same by their bits, parts only as one part. */
        private static boolean isSame(Thing one, Thing other) {
            return one == other || one instanceof Row row && other != null && row.isLike(other);
        }

        boolean mayCopyTo(Thing other) {
            return other instanceof Shelf;
        }

        int copyTo(Thing other, int i, int j, int n) {
            if (!(other instanceof Shelf shelf)) {
                return STORE;
            }
            // On one and the same shelf all belong, but places may overlap.
            if (shelf == this) {
                System.arraycopy(places, i, places, j, n);
                return 0;
            }
            for (int k = 0; k < n; k++) {
                Thing thing = places[i + k];
                if (!shelf.welcomes(thing)) {
                    return STORE;
                }
                shelf.places[j + k] = thing;
            }
            return 0;
        }
    }

    /** A part of a kind 0 .. 6, which may also be of others. */
    private static final class Part extends Thing {
        // By kind: one bit for each kind that it is of.
        private static final int[] KINDS_OF = {129, 130, 134, 8, 24, 32, 96};
        private static final int[] LIMIT_BODIES = {11, 12, 13, 14, 15, 16, 17};

        final int kind;
        final int serial;
        long wear;
        long lastWear;

        Part(int kind, int serial) {
            this.kind = kind;
            this.serial = serial;
        }

        boolean isOf(int other) {
            return (KINDS_OF[kind] >> other & 1) != 0;
        }

        int limit(Trace trace) {
            trace.begin(LIMIT_BODIES[kind]);
            switch (kind) {
                case SONIC:
                    trace.begin(12);
                    return 30 + 20;
                case PITCH:
                    trace.begin(14);
                    return 2 * 50;
                case HEAVY:
                    trace.begin(16);
                    return 60 + serial % 10;
                case DRIVE:
                    return 50;
                case BLADE:
                    return 60;
                default:
                    return kind == 0 ? 40 : 30;
            }
        }

        int cost(Trace trace) {
            boolean heavy = kind == HEAVY;
            trace.begin(heavy ? 22 : 21);
            return (heavy ? 15 : 10) * limit(trace);
        }

        /** 0, with what was told in lastWear, or the failure that it met. */
        int wearBy(int load, Trace trace) {
            if (!isOf(DRIVE)) {
                trace.begin(31);
                return addWear(load);
            }
            if (kind == PITCH) {
                trace.begin(33);
            }
            trace.begin(32);
            int limit = limit(trace);
            if (limit == 0 || kind == PITCH && serial == 0) {
                return ZERO;
            }
            return addWear(load * load / limit + (kind == PITCH ? load / serial : 0));
        }

        private int addWear(long told) {
            lastWear = told;
            wear += told;
            return 0;
        }

        int sort() {
            return PART;
        }

        int size() {
            return 0;
        }

        boolean isLike(Thing other) {
            return false;
        }

        boolean mayCopyTo(Thing other) {
            return false;
        }

        int copyTo(Thing other, int i, int j, int n) {
            return STORE;
        }
    }

    /** The bodies that began, the first of them since they were forgotten. */
    private static final class Trace {
        final int[] bodies = new int[60];
        int kept;

        void begin(int body) {
            if (kept < bodies.length) {
                bodies[kept] = body;
                kept++;
            }
        }
    }

    /** The plans, and the latest act with all that it takes, says and changes. */
    private static final class Acts {
        static final int TAKE = 0, LAY = 1, WRITE = 2, SAY = 3, ANSWER = 4, SAY_LAST = 5, FAIL = 6;
        static final int DO = 7, TRY = 8, FINALLY = 9, HOLDING = 10, WAKE = 11, FIT = 12, STRIP = 13;
        static final int PLANS = 10, MOST_STEPS = 16, MOST_SAID = 60;
        private static final int MOST_BEGUN = 100, MOST_DEEP = 8;
        // How a plan ends, where it does not end by a failure.
        private static final int ENDED = 0, ANSWERED = 1;

        final int[] steps = new int[PLANS * MOST_STEPS * 4];
        final int[] lengths = new int[PLANS];
        final int[] log = new int[MOST_SAID];
        private final Hand hand = new Hand(MOST_BEGUN);
        private final Undo undo = new Undo(MOST_BEGUN);
        private Thing[] cases;
        private Turbine[] turbines;
        private int last;
        int answer;
        int stepsBegun;
        int deepest;
        int timesSaid;
        int cause;
        int wentBack;

        static boolean isPlan(int plan) {
            return plan >= 0 && plan < PLANS;
        }

        int addStep(int plan, int op, int a, int b, int c) {
            int at = (plan * MOST_STEPS + lengths[plan]) * 4;
            steps[at] = op;
            steps[at + 1] = a;
            steps[at + 2] = b;
            steps[at + 3] = c;
            lengths[plan]++;
            return lengths[plan];
        }

        int perform(int plan, Thing[] cases, Turbine[] turbines) {
            this.cases = cases;
            this.turbines = turbines;
            last = 0;
            answer = 0;
            stepsBegun = 0;
            deepest = 0;
            timesSaid = 0;
            cause = 0;
            wentBack = 0;
            hand.held = 0;
            undo.remember(cases, turbines);
            int outcome = doPlan(plan, 1);
            if (outcome != ANSWERED) {
                answer = 0;
            }
            if (outcome < 0) {
                undo.bringBack(cases, turbines);
            } else {
                wentBack = hand.giveBack(cases);
            }
            return outcome;
        }

        /** ENDED, ANSWERED (with the answer kept) or the failure by which the plan ended. */
        private int doPlan(int plan, int depth) {
            if (depth > MOST_DEEP) {
                return DEEP;
            }
            deepest = Math.max(deepest, depth);
            for (int i = 0; i < lengths[plan]; i++) {
                if (stepsBegun >= MOST_BEGUN) {
                    return SPENT;
                }
                stepsBegun++;
                int outcome = doStep((plan * MOST_STEPS + i) * 4, depth);
                if (outcome != ENDED) {
                    return outcome;
                }
            }
            return ENDED;
        }

        private int doStep(int at, int depth) {
            int a = steps[at + 1];
            int b = steps[at + 2];
            int c = steps[at + 3];
            switch (steps[at]) {
                case TAKE:
                    return takeFrom(a);
                case LAY:
                    return layInto(a);
                case WRITE:
                    return writeItem(a, b, c);
                case SAY:
                    return say(a);
                case ANSWER:
                    answer = a;
                    return ANSWERED;
                case SAY_LAST:
                    return say(last);
                case FAIL:
                    return -10 - a;
                case DO:
                    return doForLast(a, depth);
                case TRY:
                    return doTry(a, b, c, depth);
                case FINALLY:
                    return doFinally(a, b, depth);
                case HOLDING:
                    return doHolding(a, b, depth);
                case WAKE:
                    return turbines[a].held == 0 ? HOLD : say(turbines[a].held);
                case FIT:
                    return fitInto(turbines[a], b);
                default:
                    return stripFrom(turbines[a], b);
            }
        }

        private int doForLast(int plan, int depth) {
            int outcome = doPlan(plan, depth + 1);
            if (outcome != ANSWERED) {
                return outcome;
            }
            last = answer;
            return ENDED;
        }

        private int doTry(int plan, int failure, int instead, int depth) {
            int outcome = doPlan(plan, depth + 1);
            boolean caught = outcome < 0 && outcome != SPENT && (failure == 0 || outcome == -10 - failure);
            return caught ? doPlan(instead, depth + 1) : outcome;
        }

        private int doFinally(int plan, int finale, int depth) {
            int outcome = doPlan(plan, depth + 1);
            if (outcome == SPENT) {
                return SPENT;
            }
            int answerBefore = answer;
            int laterOutcome = doPlan(finale, depth + 1);
            if (laterOutcome == ENDED) {
                // The final plan may have done others that answered.
                answer = answerBefore;
                return outcome;
            }
            if (outcome < 0) {
                cause = -10 - outcome;
            }
            return laterOutcome;
        }

        private int doHolding(int turbine, int plan, int depth) {
            turbines[turbine].held++;
            int outcome = doPlan(plan, depth + 1);
            turbines[turbine].held--;
            return outcome;
        }

        private int takeFrom(int c) {
            if (cases[c] == null) {
                return NOTHING;
            }
            hand.push(cases[c], c);
            cases[c] = null;
            return ENDED;
        }

        private int layInto(int c) {
            Thing top = hand.top();
            if (top == null) {
                return NOTHING;
            }
            if (cases[c] != null) {
                return STORE;
            }
            cases[c] = top;
            hand.held--;
            return ENDED;
        }

        private int writeItem(int c, int i, int value) {
            Thing thing = cases[c];
            if (thing == null) {
                return NOTHING;
            }
            if (!(thing instanceof Row row) || row.lane != INTS) {
                return CAST;
            }
            if (!row.reaches(i, 1)) {
                return INDEX;
            }
            undo.noteItem(row, i);
            row.items[i] = value;
            return ENDED;
        }

        private int say(int what) {
            if (timesSaid < MOST_SAID) {
                log[timesSaid] = what;
            }
            timesSaid++;
            return ENDED;
        }

        private int fitInto(Turbine turbine, int slot) {
            if (slot > 2 && turbine.held == 0) {
                return HOLD;
            }
            Thing top = hand.top();
            if (top == null) {
                return NOTHING;
            }
            int wanted = slot == DRIVE_SLOT ? DRIVE : slot == BLADE_SLOT ? BLADE : SENSOR;
            if (!(top instanceof Part part) || !part.isOf(wanted)) {
                return CAST;
            }
            hand.held--;
            if (turbine.slots[slot] != null) {
                hand.push(turbine.slots[slot], CASES - 1);
            }
            turbine.slots[slot] = part;
            return ENDED;
        }

        private int stripFrom(Turbine turbine, int slot) {
            if (slot > 2 && turbine.held == 0) {
                return HOLD;
            }
            if (turbine.slots[slot] == null) {
                return NOTHING;
            }
            hand.push(turbine.slots[slot], CASES - 1);
            turbine.slots[slot] = null;
            return ENDED;
        }
    }

    /** The pile of things that an act has taken, each with the case to which it goes back. */
    private static final class Hand {
        private final Thing[] things;
        private final int[] origins;
        int held;

        /** Each step brings one thing at most, so that the steps of an act bound the pile. */
        Hand(int most) {
            things = new Thing[most];
            origins = new int[most];
        }

        Thing top() {
            return held > 0 ? things[held - 1] : null;
        }

        void push(Thing thing, int origin) {
            if (held < things.length) {
                things[held] = thing;
                origins[held] = origin;
                held++;
            }
        }

        /** The last first; how many found a case. */
        int giveBack(Thing[] cases) {
            int went = 0;
            for (int i = held - 1; i >= 0; i--) {
                int c = cases[origins[i]] == null ? origins[i] : leastEmpty(cases);
                if (c != NONE) {
                    cases[c] = things[i];
                    went++;
                }
            }
            held = 0;
            return went;
        }

        private static int leastEmpty(Thing[] cases) {
            for (int c = 0; c < cases.length; c++) {
                if (cases[c] == null) {
                    return c;
                }
            }
            return NONE;
        }
    }

    /** What cases, slots and written items were ahead of an act. */
    private static final class Undo {
        private final Thing[] casesBefore = new Thing[CASES];
        private final Part[] slotsBefore = new Part[6 * SLOTS];
        private final Row[] rows;
        private final int[] places;
        private final long[] itemsBefore;
        private int written;

        /** Each step writes one item at most. */
        Undo(int most) {
            rows = new Row[most];
            places = new int[most];
            itemsBefore = new long[most];
        }

        void remember(Thing[] cases, Turbine[] turbines) {
            written = 0;
            System.arraycopy(cases, 0, casesBefore, 0, CASES);
            for (int t = 0; t < turbines.length; t++) {
                System.arraycopy(turbines[t].slots, 0, slotsBefore, t * SLOTS, SLOTS);
            }
        }

        void noteItem(Row row, int i) {
            if (written < rows.length) {
                rows[written] = row;
                places[written] = i;
                itemsBefore[written] = row.items[i];
                written++;
            }
        }

        void bringBack(Thing[] cases, Turbine[] turbines) {
            // The last first: an item may have been written more than once.
            for (int i = written - 1; i >= 0; i--) {
                rows[i].items[places[i]] = itemsBefore[i];
            }
            System.arraycopy(casesBefore, 0, cases, 0, CASES);
            for (int t = 0; t < turbines.length; t++) {
                System.arraycopy(slotsBefore, t * SLOTS, turbines[t].slots, 0, SLOTS);
            }
        }
    }

    /** The turbines with the wind that they share. */
    private static final class Farm {
        private static final int[] DX = {1, 1, 0, -1, -1, -1, 0, 1};
        private static final int[] DY = {0, 1, 1, 1, 0, -1, -1, -1};
        private static final int MOST_FINDINGS = 40;

        final Turbine[] turbines;
        final int[] findings = new int[MOST_FINDINGS * 4];
        int findingsKept;
        int steps;
        int direction;
        boolean cold;
        private final Turbine[] order;
        private final long[] votes = new long[SENSORS];

        Farm(int n) {
            turbines = new Turbine[n];
            order = new Turbine[n];
            for (int t = 0; t < n; t++) {
                turbines[t] = new Turbine(t);
            }
        }

        /** So many steps of all turbines: the findings that came. */
        int go(int n, Trace trace) {
            arrange();
            int came = 0;
            for (int i = 0; i < n; i++) {
                for (int rank = 0; rank < order.length; rank++) {
                    came += goThrough(rank, trace);
                }
                steps++;
            }
            return came;
        }

        /** Places and direction cannot change within a run, so the order stands for all its steps. */
        private void arrange() {
            for (int t = 0; t < turbines.length; t++) {
                Turbine turbine = turbines[t];
                turbine.line = turbine.x * DX[direction] + turbine.y * DY[direction];
                turbine.cross = turbine.x * DY[direction] - turbine.y * DX[direction];
                int rank = t;
                while (rank > 0 && order[rank - 1].line > turbine.line) {
                    order[rank] = order[rank - 1];
                    rank--;
                }
                order[rank] = turbine;
            }
        }

        /** The findings that came: one, or none. */
        private int goThrough(int rank, Trace trace) {
            Turbine turbine = order[rank];
            if (turbine.state == FAILED) {
                turbine.turns = turbine.turns * 0.5;
                turbine.rememberReadings();
                return 0;
            }
            turbine.vote = voteOf(turbine);
            turbine.rememberReadings();
            turbine.wind = turbine.isBlind() ? 0.0 : Numbers.valueOf(turbine.vote) * (1.0 - wakeAt(rank));
            turbine.changeState();
            int slot = DRIVE_SLOT;
            int failure = turbine.turnBlades(trace);
            if (failure == 0) {
                turbine.turnRotor();
                slot = BLADE_SLOT;
                failure = turbine.wearBlade(trace);
            }
            if (failure == 0) {
                return 0;
            }
            turbine.state = FAILED;
            turbine.torque = 0.0;
            keepFinding(turbine.number, slot, -10 - failure);
            return 1;
        }

        private void keepFinding(int turbine, int slot, int failure) {
            if (findingsKept < MOST_FINDINGS) {
                int at = findingsKept * 4;
                findings[at] = turbine;
                findings[at + 1] = slot;
                findings[at + 2] = failure;
                findings[at + 3] = steps + 1;
                findingsKept++;
            }
        }

        private long voteOf(Turbine turbine) {
            // What stands still in the cold is taken to be frozen, once two steps can show it.
            boolean mayFreeze = cold && steps >= 2;
            int n = 0;
            for (int s = 0; s < SENSORS; s++) {
                boolean speaks = turbine.slots[s] != null && Numbers.isNumber(turbine.readings[s]);
                if (speaks && !(mayFreeze && turbine.isStill(s))) {
                    votes[n] = turbine.readings[s];
                    n++;
                }
            }
            if (n == 0) {
                return Numbers.NO_NUMBER;
            }
            Numbers.sort(votes, n);
            return votes[(n - 1) / 2];
        }

        /** What the wakes of those ahead take away, 0.0 .. 1.0. */
        private double wakeAt(int rank) {
            Turbine turbine = order[rank];
            double sum = 0.0;
            for (int k = 0; k < rank; k++) {
                Turbine ahead = order[k];
                int p = turbine.line - ahead.line;
                if (ahead.state == MAKING && p > 0 && Math.abs(turbine.cross - ahead.cross) <= 3 + p / 4) {
                    double e = 1.0 + p * 0.1;
                    double d = 0.6 / (e * e);
                    sum = sum + d * d;
                }
            }
            double wake = Numbers.rootOf(sum);
            return wake > 1.0 ? 1.0 : wake;
        }
    }

    /** One turbine. Its doubles are always numbers; readings and the vote, which may be none, are kept as bits. */
    private static final class Turbine {
        final int number;
        int x;
        int y;
        int line;
        int cross;
        final Part[] slots = new Part[SLOTS];
        final long[] readings = {Numbers.NO_NUMBER, Numbers.NO_NUMBER, Numbers.NO_NUMBER};
        private final long[] readingsBefore = new long[SENSORS];
        private final long[] readingsEarlier = new long[SENSORS];
        int held;
        int state;
        long vote;
        double wind;
        double pitch = 90.0;
        double torque;
        double turns;
        double energy;
        double bound = 1000.0;

        Turbine(int number) {
            this.number = number;
        }

        boolean isBlind() {
            return vote == Numbers.NO_NUMBER;
        }

        boolean isStill(int sensor) {
            long now = readings[sensor];
            return now == readingsBefore[sensor] && now == readingsEarlier[sensor];
        }

        void rememberReadings() {
            for (int s = 0; s < SENSORS; s++) {
                readingsEarlier[s] = readingsBefore[s];
                readingsBefore[s] = readings[s];
            }
        }

        void changeState() {
            boolean running = state == STARTING || state == MAKING;
            if (running && (isBlind() || turns > 16.0)) {
                state = STOPPING;
            } else if (state == WAITING && !isBlind() && wind >= 4.0 && bound > 0.0) {
                state = STARTING;
            } else if (state == STARTING && turns >= 6.0) {
                state = MAKING;
            } else if (state == STOPPING && turns < 0.5) {
                state = WAITING;
            }
        }

        /** 0, or the failure of the drive, ahead of which the pitch stays. */
        int turnBlades(Trace trace) {
            double by = within(state == STOPPING ? 12.0 : 6.0, pitchGoal() - pitch);
            if (by == 0.0) {
                return 0;
            }
            Part drive = slots[DRIVE_SLOT];
            int failure = drive == null ? NOTHING : drive.wearBy((int) (by < 0.0 ? -by : by), trace);
            if (failure == 0) {
                pitch = pitch + by;
            }
            return failure;
        }

        private double pitchGoal() {
            if (state == STARTING) {
                return 20.0;
            }
            if (state != MAKING) {
                return 90.0;
            }
            if (turns <= 10.0) {
                return 0.0;
            }
            double goal = (turns - 10.0) * 8.0;
            return goal > 90.0 ? 90.0 : goal;
        }

        void turnRotor() {
            if (state == MAKING) {
                double q = torque + within(0.5, turns * 0.5 - torque);
                torque = q < 0.0 ? 0.0 : q;
            } else {
                torque = torque / 2.0;
            }
            double next = turns + 0.1 * (wind * (1.0 - pitch / 90.0) - torque - 0.1 * turns);
            turns = next > 0.0 ? next : 0.0;
            if (torque * turns > bound) {
                torque = bound / turns;
            }
            energy = energy + torque * turns;
        }

        /** 0, or the failure of the blade. */
        int wearBlade(Trace trace) {
            if (state != MAKING) {
                return 0;
            }
            Part blade = slots[BLADE_SLOT];
            return blade == null ? NOTHING : blade.wearBy(Math.min(MOST_LOAD, (int) wind), trace);
        }

        /** Cut to what lies between the limit and its negative. */
        private static double within(double limit, double value) {
            return value > limit ? limit : value < -limit ? -limit : value;
        }

        long tell(int what) {
            switch (what) {
                case 0:
                    return state;
                case 1:
                    return Numbers.bitsOf(pitch);
                case 2:
                    return Numbers.bitsOf(torque);
                case 3:
                    return Numbers.bitsOf(turns);
                case 4:
                    return Numbers.bitsOf(energy);
                case 5:
                    return Numbers.bitsOf(bound);
                case 6:
                    return vote;
                case 7:
                    return Numbers.bitsOf(wind);
                default:
                    Part part = slots[what - 8];
                    return part == null ? NONE : part.serial;
            }
        }
    }

    /**
     * Doubles and their bits. The library's ways between them are not to be used here, so that they are gone
     * by arithmetic that is exact; and no double is ever made of bits that are no number.
     */
    private static final class Numbers {
        static final long NO_NUMBER = 0x7FF8000000000000L;
        static final int NO_FLOAT = 0x7FC00000;
        static final long THOUSAND = 0x408F400000000000L;
        private static final long ENDLESS = 0x7FF0000000000000L;
        private static final int ENDLESS_FLOAT = 0x7F800000;
        private static final long SIGN = 0x8000000000000000L;
        private static final long ALL_BUT_SIGN = 0x7FFFFFFFFFFFFFFFL;
        private static final long HIDDEN_DIGIT = 0x0010000000000000L;
        private static final long DIGITS = 0x000FFFFFFFFFFFFFL;

        static boolean isNumber(long bits) {
            return sizeOf(bits) <= ENDLESS;
        }

        static boolean isFloatNumber(int bits) {
            return (bits & 0x7FFFFFFF) <= ENDLESS_FLOAT;
        }

        /** The bits without the sign: of numbers they lie in the order of their sizes. */
        static long sizeOf(long bits) {
            return bits & ALL_BUT_SIGN;
        }

        /** The bits of the double that is the float with these. */
        static long widened(int bits) {
            long sign = bits < 0 ? SIGN : 0L;
            int exponent = bits >> 23 & 255;
            long digits = bits & 0x7FFFFF;
            if (exponent == 255) {
                return digits == 0L ? sign | ENDLESS : NO_NUMBER;
            }
            if (exponent == 0) {
                if (digits == 0L) {
                    return sign;
                }
                // A double has room for the exponent that the float lacked.
                exponent = 1;
                for (int i = 0; i < 23 && digits < 0x800000L; i++) {
                    digits = digits << 1;
                    exponent--;
                }
                digits = digits & 0x7FFFFFL;
            }
            return sign | (long) (exponent + 896) << 52 | digits << 29;
        }

        /** Of bits that are a number. The endless ones come as what grows beyond all numbers. */
        static double valueOf(long bits) {
            int exponent = (int) (bits >> 52) & 2047;
            long digits = bits & DIGITS;
            if (exponent == 0) {
                exponent = 1;
            } else {
                digits = digits | HIDDEN_DIGIT;
            }
            double size = scaled((double) digits, exponent - 1075);
            return bits < 0L ? -size : size;
        }

        /** By a power of two; exact, where the result has room, since each part of the way then has it, too. */
        private static double scaled(double value, int power) {
            double scaled = value;
            int left = power;
            for (; left >= 32; left -= 32) {
                scaled = scaled * 4294967296.0;
            }
            for (; left <= -32; left += 32) {
                scaled = scaled / 4294967296.0;
            }
            return left >= 0 ? scaled * (double) (1L << left) : scaled / (double) (1L << -left);
        }

        static long bitsOf(double value) {
            if (value == 0.0) {
                // Nothing but a quotient shows the sign of a zero.
                return 1.0 / value < 0.0 ? SIGN : 0L;
            }
            long sign = value < 0.0 ? SIGN : 0L;
            double size = value < 0.0 ? -value : value;
            if (size > 1.7976931348623157E308) {
                return sign | ENDLESS;
            }
            // Size is brought to 2^52 .. 2^53, where it is a whole number with all its digits.
            int exponent = 1075;
            for (int i = 0; i < 40 && size >= 9007199254740992.0; i++) {
                size = size / 4294967296.0;
                exponent += 32;
            }
            for (int i = 0; i < 40 && size < 1048576.0; i++) {
                size = size * 4294967296.0;
                exponent -= 32;
            }
            for (int i = 0; i < 4 && size < 17592186044416.0; i++) {
                size = size * 256.0;
                exponent -= 8;
            }
            for (int i = 0; i < 8 && size < 4503599627370496.0; i++) {
                size = size * 2.0;
                exponent--;
            }
            long digits = (long) size;
            if (exponent <= 0) {
                return sign | digits >> (1 - exponent);
            }
            return sign | (long) exponent << 52 | digits & DIGITS;
        }

        /** The square root, rounded as the language's own: of 0.0, or of what is not so small as to lack digits. */
        static double rootOf(double square) {
            if (square <= 0.0) {
                return 0.0;
            }
            long bits = bitsOf(square);
            int exponent = (int) (bits >> 52) - 1075;
            long digits = bits & DIGITS | HIDDEN_DIGIT;
            if ((exponent & 1) != 0) {
                digits = digits << 1;
                exponent--;
            }
            // Digit by digit, as on paper: 54 of them, one more than is kept. That one alone tells how to round,
            // for no root lies just between two doubles.
            long root = 0L;
            long rest = 0L;
            for (int i = 0; i < 54; i++) {
                long pair = i < 27 ? digits >> (52 - 2 * i) & 3L : 0L;
                long trial = root << 2 | 1L;
                rest = rest << 2 | pair;
                root = root << 1;
                if (rest >= trial) {
                    rest = rest - trial;
                    root = root | 1L;
                }
            }
            return scaled((double) ((root + 1L) >> 1), exponent / 2 - 26);
        }

        /** Grows as numbers do, with -0.0 below 0.0; taken twice it gives the bits again. */
        private static long orderOf(long bits) {
            return bits >= 0L ? bits : bits ^ ALL_BUT_SIGN;
        }

        /** Sorts the first n, bits of numbers, by size. */
        static void sort(long[] numbers, int n) {
            for (int i = 1; i < n; i++) {
                long bits = numbers[i];
                int at = i;
                while (at > 0 && orderOf(numbers[at - 1]) > orderOf(bits)) {
                    numbers[at] = numbers[at - 1];
                    at--;
                }
                numbers[at] = bits;
            }
        }

        /** A test 0 .. 5 of two, as the language has it: what is no number passes none but "not the same". */
        static boolean passes(long one, long other, int test) {
            if (!isNumber(one) || !isNumber(other)) {
                return test == 5;
            }
            long first = sizeOf(one) == 0L ? 0L : orderOf(one);
            long second = sizeOf(other) == 0L ? 0L : orderOf(other);
            switch (test) {
                case 0:
                    return first < second;
                case 1:
                    return first <= second;
                case 2:
                    return first > second;
                case 3:
                    return first >= second;
                case 4:
                    return first == second;
                default:
                    return first != second;
            }
        }

        /** Both endless ones among what is added, the sum being endless on the way, leave no number. */
        private static boolean isSumLost(long[] numbers, int n) {
            double sum = 0.0;
            for (int i = 0; i < n; i++) {
                double value = valueOf(numbers[i]);
                if (sizeOf(numbers[i]) == ENDLESS && value == -sum) {
                    return true;
                }
                sum = sum + value;
            }
            return false;
        }

        private static double sumOf(long[] numbers, int n) {
            double sum = 0.0;
            for (int i = 0; i < n; i++) {
                sum = sum + valueOf(numbers[i]);
            }
            return sum;
        }

        /** Bits of the sum by how many there are. */
        static long meanOf(long[] numbers, int n) {
            return n == 0 || isSumLost(numbers, n) ? NO_NUMBER : bitsOf(sumOf(numbers, n) / n);
        }

        /** The sum, cast to a long, as which no number is 0. */
        static long wholeSumOf(long[] numbers, int n) {
            return isSumLost(numbers, n) ? 0L : (long) sumOf(numbers, n);
        }
    }
}
