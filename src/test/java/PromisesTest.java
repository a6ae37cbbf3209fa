/** Each promise by hand: ordinary inputs, the edges that the document names, and wrong inputs. */
public final class PromisesTest {
    private static final int NONE = -1, UNKNOWN = -2, OUTSIDE = -3, STATE = -4, ROOM = -5;
    private static final int NOTHING = -11, INDEX = -12, SIZE = -13, CAST = -14, STORE = -15, ZERO = -16;
    private static final int HOLD = -17, DEEP = -18, SPENT = -19;
    private static final long NO_NUMBER = 9221120237041090560L;
    private static final int TAKE = 0, LAY = 1, WRITE = 2, SAY = 3, ANSWER = 4, SAY_LAST = 5, FAIL = 6, DO = 7;
    private static final int TRY = 8, FINALLY = 9, HOLDING = 10, WAKE = 11, FIT = 12, STRIP = 13;
    private static final int WAITING = 0, STARTING = 1, MAKING = 2, STOPPING = 3, FAILED = 4;

    private static int wrong = 0;

    private PromisesTest() {
    }

    private static void due(int promise, String what, long got, long want) {
        if (got != want) {
            wrong++;
            System.out.println("promise " + promise + ": " + what + ": " + got + ", due is " + want);
        }
    }

    /** A call that answers 0 where it is refused, with why. */
    private static void refused(int promise, String what, WindPark x, long got, long why) {
        due(promise, what, got, 0);
        due(promise, "why of " + what, x.why(), why);
    }

    private static long bits(double d) {
        return Double.doubleToLongBits(d);
    }

    public static void main(String[] args) {
        newObject();
        row();
        grid();
        cradle();
        part();
        setClearHolds();
        putGet();
        putAtGetAt();
        link();
        lay();
        lift();
        copyRows();
        copyShelves();
        length();
        alike();
        askLimitAndCost();
        askWears();
        told();
        tracedForget();
        seconds();
        secondsOfEndless();
        test();
        step();
        drop();
        takeAndLay();
        write();
        sayAndAnswer();
        tryPlans();
        finallyPlans();
        holdAndWake();
        fitAndStrip();
        deepAndSpent();
        goesBack();
        undone();
        acted();
        said();
        place();
        read();
        windAndBound();
        runStates();
        runPitchTorqueTurns();
        runVote();
        runCold();
        runWakes();
        runFailures();
        runFindingsKept();
        reset();
        of();
        finding();
        why();
        count();
        System.out.println(wrong == 0 ? "all promises stand" : wrong + " answers are not as due");
        if (wrong != 0) {
            System.exit(1);
        }
    }

    private static void newObject() {
        int[][] told = {{Integer.MIN_VALUE, 1}, {-1, 1}, {0, 1}, {1, 1}, {2, 2}, {5, 5}, {6, 6}, {7, 6},
            {Integer.MAX_VALUE, 6}};
        for (int[] pair : told) {
            due(1, "turbines of " + pair[0], new WindPark(pair[0]).count(0), pair[1]);
        }
        WindPark x = new WindPark(3);
        due(1, "why at first", x.why(), 0);
        for (int c = 0; c < 24; c++) {
            due(1, "holds", x.holds(c), NONE);
        }
        for (int p = 0; p < 10; p++) {
            due(1, "drop", x.drop(p), 0);
        }
        for (int what = 1; what < 6; what++) {
            due(1, "count " + what, x.count(what), 0);
        }
    }

    private static void row() {
        WindPark x = new WindPark(1);
        due(2, "of 30", x.row(23, 7, 30), 30);
        due(2, "last item", x.get(23, 7, 29), 0);
        due(2, "of 0", x.row(0, 0, 0), 0);
        due(2, "length 0", x.length(0, 0), 0);
        due(2, "case -1", x.row(-1, 9, 99), UNKNOWN);
        due(2, "case 24", x.row(24, 0, 1), UNKNOWN);
        due(2, "lane -1", x.row(0, -1, -1), OUTSIDE);
        due(2, "lane 8", x.row(0, 8, 1), OUTSIDE);
        due(2, "31", x.row(0, 0, 31), OUTSIDE);
        due(2, "-1", x.row(0, 0, -1), SIZE);
        due(2, "least", x.row(0, 0, Integer.MIN_VALUE), SIZE);
        due(2, "refused ones change nothing", x.length(0, 0), 0);
        x.put(23, 7, 0, 1);
        due(2, "a new one", x.row(23, 7, 4), 4);
        due(2, "is empty", x.get(23, 7, 0), 0);
        x.part(1, 0);
        due(2, "over a part", x.row(1, 3, 2), 2);
        due(2, "is a row", x.holds(1), 3);
    }

    private static void grid() {
        WindPark x = new WindPark(1);
        due(3, "8 by 12", x.grid(0, 8, 12), 8);
        due(3, "last", x.putAt(0, 7, 11, 5), 1);
        due(3, "12", x.putAt(0, 7, 12, 5), INDEX);
        due(3, "rows of 0", x.grid(1, 2, 0), 2);
        due(3, "no item", x.putAt(1, 0, 0, 5), INDEX);
        due(3, "missing", x.grid(2, 2, -1), 2);
        due(3, "is missing", x.putAt(2, 1, 0, 5), NOTHING);
        due(3, "none", x.grid(3, 0, -1), 0);
        due(3, "none of 12", x.grid(3, 0, 12), 0);
        due(3, "no row", x.putAt(3, 0, 0, 5), INDEX);
        due(3, "case", x.grid(24, 9, 13), UNKNOWN);
        due(3, "9", x.grid(0, 9, 1), OUTSIDE);
        due(3, "13", x.grid(0, 1, 13), OUTSIDE);
        due(3, "-1 and 13", x.grid(0, -1, 13), OUTSIDE);
        due(3, "9 and -2", x.grid(0, 9, -2), OUTSIDE);
        due(3, "-1", x.grid(0, -1, 1), SIZE);
        due(3, "-2", x.grid(0, 1, -2), SIZE);
        due(3, "as it was", x.getAt(0, 7, 11), 5);
    }

    private static void cradle() {
        WindPark x = new WindPark(1);
        due(4, "of 8", x.cradle(0, 7, 8), 8);
        due(4, "length", x.length(0, 9), 8);
        due(4, "of 0", x.cradle(1, 0, 0), 0);
        due(4, "case", x.cradle(-1, 8, 9), UNKNOWN);
        due(4, "kind 8", x.cradle(0, 8, 1), OUTSIDE);
        due(4, "kind -1", x.cradle(0, -1, -1), OUTSIDE);
        due(4, "9", x.cradle(0, 0, 9), OUTSIDE);
        due(4, "-1", x.cradle(0, 0, -1), SIZE);
        due(4, "as it was", x.length(0, 9), 8);
        due(4, "lift a missing one", x.lift(0, 7, 0, 5), 1);
    }

    private static void part() {
        WindPark x = new WindPark(1);
        due(5, "case", x.part(24, 9), UNKNOWN);
        due(5, "kind 7", x.part(0, 7), OUTSIDE);
        due(5, "kind -1", x.part(0, -1), OUTSIDE);
        for (int i = 0; i < 60; i++) {
            due(5, "serial", x.part(i % 24, i % 7), i);
        }
        due(5, "kind ahead of room", x.part(0, 7), OUTSIDE);
        due(5, "61st", x.part(0, 0), ROOM);
        due(5, "the case as it was", x.told(0, 1), 48);
        due(5, "parts that came", x.count(1), 60);
    }

    private static void setClearHolds() {
        WindPark x = new WindPark(1);
        x.row(0, 4, 2);
        due(6, "set", x.set(0, 1), 1);
        due(6, "so already", x.set(0, 1), 0);
        due(6, "itself", x.set(0, 0), 0);
        x.put(1, 4, 1, 77);
        due(6, "the same one", x.get(0, 4, 1), 77);
        due(6, "from an empty one", x.set(5, 1), 1);
        due(6, "is empty", x.holds(1), NONE);
        due(6, "both empty", x.set(5, 6), 0);
        due(6, "a row alike", x.row(2, 4, 2) + x.set(0, 2), 3);
        due(6, "c", x.set(24, 0), UNKNOWN);
        due(6, "d", x.set(0, -1), UNKNOWN);
        due(7, "clear", x.clear(0), 1);
        due(7, "again", x.clear(0), 0);
        due(7, "the other has it yet", x.get(2, 4, 1), 77);
        due(7, "case", x.clear(24), UNKNOWN);
        for (int lane = 0; lane < 8; lane++) {
            x.row(3, lane, 1);
            due(8, "row", x.holds(3), lane);
        }
        x.grid(3, 1, 1);
        due(8, "grid", x.holds(3), 8);
        x.cradle(3, 1, 1);
        due(8, "cradle", x.holds(3), 9);
        x.part(3, 1);
        due(8, "part", x.holds(3), 10);
        due(8, "none", x.holds(9), NONE);
        due(8, "none is not refused", x.why(), 0);
        due(8, "case", x.holds(-1), UNKNOWN);
    }

    private static void putGet() {
        WindPark x = new WindPark(1);
        long given = 0x8000_0001_FFFF_8181L;
        long[] want = {(byte) given, (short) given, (char) given, (int) given, given, (int) given, given, 1};
        want[5] = 2143289344L;
        for (int lane = 0; lane < 8; lane++) {
            x.row(lane, lane, 2);
            due(9, "put " + lane, x.put(lane, lane, 1, given), 1);
            due(10, "get " + lane, x.get(lane, lane, 1), want[lane]);
            due(10, "the other " + lane, x.get(lane, lane, 0), 0);
        }
        x.put(6, 6, 0, 0xFFF0000000000001L);
        due(10, "no number", x.get(6, 6, 0), NO_NUMBER);
        x.put(6, 6, 0, 0xFFF0000000000000L);
        due(10, "endless", x.get(6, 6, 0), 0xFFF0000000000000L);
        x.put(5, 5, 0, 0xFF800001L);
        due(10, "no float", x.get(5, 5, 0), 2143289344L);
        x.put(5, 5, 0, 0x1234_0000_FF80_0000L);
        due(10, "endless float", x.get(5, 5, 0), (long) 0xFF800000);
        x.put(5, 5, 0, 0x80000000L);
        due(10, "-0.0 as an int", x.get(5, 5, 0), -2147483648L);
        due(9, "case", x.put(24, 8, 0, 0), UNKNOWN);
        due(9, "lane 8", x.put(0, 8, 0, 0), OUTSIDE);
        due(9, "lane -1", x.put(20, -1, 0, 0), OUTSIDE);
        due(9, "cast ahead of index", x.put(0, 1, 9, 0), CAST);
        due(9, "nothing", x.put(20, 1, 9, 0), NOTHING);
        due(9, "index", x.put(0, 0, 2, 0), INDEX);
        due(9, "index -1", x.put(0, 0, -1, 0), INDEX);
        refused(10, "case", x, x.get(-1, 8, 0), UNKNOWN);
        refused(10, "lane", x, x.get(0, 8, 0), OUTSIDE);
        refused(10, "cast", x, x.get(0, 7, 9), CAST);
        refused(10, "nothing", x, x.get(20, 7, 9), NOTHING);
        refused(10, "index", x, x.get(0, 0, Integer.MAX_VALUE), INDEX);
        refused(10, "index least", x, x.get(0, 0, Integer.MIN_VALUE), INDEX);
    }

    private static void putAtGetAt() {
        WindPark x = new WindPark(1);
        x.grid(0, 2, 3);
        x.grid(1, 2, -1);
        x.row(2, 3, 3);
        due(11, "putAt", x.putAt(0, 1, 2, Integer.MIN_VALUE), 1);
        due(12, "getAt", x.getAt(0, 1, 2), Integer.MIN_VALUE);
        due(12, "not refused", x.why(), 0);
        due(12, "elsewhere", x.getAt(0, 0, 2), 0);
        due(11, "case", x.putAt(24, 0, 0, 1), UNKNOWN);
        due(11, "cast", x.putAt(2, 9, 9, 1), CAST);
        due(11, "empty", x.putAt(9, 9, 9, 1), NOTHING);
        due(11, "i", x.putAt(1, 2, 9, 1), INDEX);
        due(11, "i -1", x.putAt(1, -1, 9, 1), INDEX);
        due(11, "missing", x.putAt(1, 1, 9, 1), NOTHING);
        due(11, "j", x.putAt(0, 1, 3, 1), INDEX);
        due(11, "j -1", x.putAt(0, 1, -1, 1), INDEX);
        refused(12, "case", x, x.getAt(-1, 0, 0), UNKNOWN);
        refused(12, "cast", x, x.getAt(2, 9, 9), CAST);
        refused(12, "empty", x, x.getAt(9, 9, 9), NOTHING);
        refused(12, "i", x, x.getAt(1, 2, 9), INDEX);
        refused(12, "missing", x, x.getAt(1, 1, 9), NOTHING);
        refused(12, "j", x, x.getAt(0, 1, 3), INDEX);
    }

    private static void link() {
        WindPark x = new WindPark(1);
        x.grid(0, 2, 1);
        x.row(1, 3, 30);
        x.row(2, 4, 3);
        x.part(3, 0);
        due(13, "link", x.link(0, 1, 1), 1);
        due(13, "the same one", x.putAt(0, 1, 29, 8) + x.get(1, 3, 29), 9);
        due(13, "both rows one", x.link(0, 0, 1) + x.getAt(0, 0, 29), 9);
        due(13, "missing", x.link(0, 0, 9), 1);
        due(13, "is missing", x.putAt(0, 0, 0, 1), NOTHING);
        due(13, "c", x.link(24, 0, 1), UNKNOWN);
        due(13, "d", x.link(0, 0, 24), UNKNOWN);
        due(13, "cast of c", x.link(3, 9, 1), CAST);
        due(13, "cast of c ahead", x.link(3, 9, 9), CAST);
        due(13, "cast of d", x.link(0, 9, 2), CAST);
        due(13, "cast of d ahead of nothing", x.link(9, 9, 3), CAST);
        due(13, "a grid is no row", x.link(0, 0, 0), CAST);
        due(13, "nothing", x.link(9, 9, 1), NOTHING);
        due(13, "nothing of nothing", x.link(9, 0, 10), NOTHING);
        due(13, "index", x.link(0, 2, 1), INDEX);
        due(13, "index -1", x.link(0, -1, 9), INDEX);
    }

    private static void lay() {
        boolean[][] of = new boolean[7][8];
        for (int kind = 0; kind < 7; kind++) {
            of[kind][kind] = true;
            of[kind][7] = kind < 3;
        }
        of[2][1] = true;
        of[4][3] = true;
        of[6][5] = true;
        WindPark x = new WindPark(1);
        for (int kind = 0; kind < 7; kind++) {
            x.part(kind, kind);
        }
        for (int want = 0; want < 8; want++) {
            x.cradle(10, want, 7);
            for (int kind = 0; kind < 7; kind++) {
                due(14, kind + " for " + want, x.lay(10, kind, kind), of[kind][want] ? 1 : STORE);
                x.lift(10, kind, want, 11);
                due(14, kind + " lies for " + want, x.holds(11), of[kind][want] ? 10 : NONE);
            }
        }
        x.row(12, 3, 1);
        x.cradle(10, 1, 2);
        x.lay(10, 0, 1);
        due(14, "missing", x.lay(10, 0, 20), 1);
        due(14, "is missing", x.lift(10, 0, 1, 11) + x.holds(11), 0);
        due(14, "c", x.lay(24, 0, 1), UNKNOWN);
        due(14, "d", x.lay(10, 0, -1), UNKNOWN);
        due(14, "cast of c", x.lay(12, 9, 12), CAST);
        due(14, "cast of d", x.lay(10, 9, 12), CAST);
        due(14, "cast of d ahead of nothing", x.lay(20, 9, 12), CAST);
        due(14, "a cradle is no part", x.lay(10, 0, 10), CAST);
        due(14, "nothing", x.lay(20, 9, 1), NOTHING);
        due(14, "index ahead of store", x.lay(10, 2, 0), INDEX);
        due(14, "index -1", x.lay(10, -1, 20), INDEX);
    }

    private static void lift() {
        WindPark x = new WindPark(1);
        x.part(0, 2);
        x.cradle(1, 7, 3);
        x.lay(1, 1, 0);
        x.row(5, 0, 1);
        for (int kind = 0; kind < 8; kind++) {
            boolean is = kind == 1 || kind == 2 || kind == 7;
            due(15, "sonic as " + kind, x.lift(1, 1, kind, 5), is ? 1 : CAST);
        }
        due(15, "the same part", x.alike(0, 5), 1);
        due(15, "it stays", x.lift(1, 1, 2, 6), 1);
        due(15, "missing, of any kind", x.lift(1, 0, 4, 6), 1);
        due(15, "is empty", x.holds(6), NONE);
        due(15, "into its own case", x.lift(1, 1, 2, 1), 1);
        due(15, "a part now", x.holds(1), 10);
        due(15, "c", x.lift(24, 0, 9, 6), UNKNOWN);
        due(15, "d", x.lift(1, 0, 9, 24), UNKNOWN);
        due(15, "kind 8", x.lift(1, 0, 8, 6), OUTSIDE);
        due(15, "kind -1", x.lift(20, 0, -1, 6), OUTSIDE);
        due(15, "cast", x.lift(1, 0, 0, 6), CAST);
        due(15, "nothing", x.lift(20, 0, 0, 6), NOTHING);
        x.cradle(1, 7, 3);
        due(15, "index", x.lift(1, 3, 0, 6), INDEX);
        due(15, "index -1", x.lift(1, -1, 0, 6), INDEX);
    }

    private static void copyRows() {
        WindPark x = new WindPark(1);
        for (int lane = 0; lane < 8; lane++) {
            x.row(0, lane, 4);
            x.row(1, lane, 4);
            x.put(0, lane, 0, 1);
            due(16, "row " + lane, x.copy(0, 0, 1, 3, 1), 1);
            due(16, "item " + lane, x.get(1, lane, 3), 1);
        }
        x.row(0, 3, 5);
        for (int i = 0; i < 5; i++) {
            x.put(0, 3, i, i);
        }
        due(16, "upwards", x.copy(0, 0, 0, 1, 4), 4);
        for (int i = 1; i < 5; i++) {
            due(16, "as before", x.get(0, 3, i), i - 1);
        }
        x.set(0, 1);
        due(16, "downwards", x.copy(0, 2, 1, 0, 3), 3);
        due(16, "as before", x.get(0, 3, 0) * 100 + x.get(0, 3, 1) * 10 + x.get(0, 3, 2), 123);
        due(16, "none", x.copy(0, 5, 0, 5, 0), 0);
        due(16, "c", x.copy(24, 0, 0, 0, 1), UNKNOWN);
        due(16, "d", x.copy(0, 0, 24, 0, 1), UNKNOWN);
        due(16, "nothing", x.copy(9, -1, 0, 0, -1), NOTHING);
        due(16, "nothing of d", x.copy(0, -1, 9, 0, -1), NOTHING);
        x.row(2, 4, 5);
        x.part(3, 0);
        x.grid(4, 2, 2);
        due(16, "lanes", x.copy(0, -1, 2, 0, 1), STORE);
        due(16, "a part", x.copy(3, 0, 3, 0, 0), STORE);
        due(16, "a part and nothing", x.copy(3, 0, 9, 0, 0), NOTHING);
        due(16, "row and grid", x.copy(0, 0, 4, 0, 0), STORE);
        due(16, "grid and row", x.copy(4, 0, 0, 0, 0), STORE);
        int[][] bad = {{-1, 0, 1}, {0, -1, 1}, {0, 0, -1}, {0, 0, 6}, {5, 0, 1}, {0, 5, 1}, {6, 0, 0}, {0, 6, 0},
            {1, 0, Integer.MAX_VALUE}, {Integer.MAX_VALUE, 0, 1}, {0, Integer.MAX_VALUE, Integer.MAX_VALUE},
            {Integer.MIN_VALUE, 0, 0}};
        for (int[] b : bad) {
            due(16, "index " + b[0] + " " + b[1] + " " + b[2], x.copy(0, b[0], 1, b[1], b[2]), INDEX);
        }
    }

    private static void copyShelves() {
        WindPark x = new WindPark(1);
        for (int kind = 0; kind < 7; kind++) {
            x.part(kind, kind);
        }
        x.cradle(10, 7, 4);
        x.lay(10, 0, 1);
        x.lay(10, 2, 2);
        x.lay(10, 3, 0);
        x.cradle(11, 1, 4);
        due(16, "cups are no vane", x.copy(10, 0, 11, 0, 4), STORE);
        int[] came = {1, NONE, 2, NONE};
        for (int i = 0; i < 4; i++) {
            x.lift(11, i, 1, 12);
            due(16, "came " + i, x.holds(12) == NONE ? NONE : x.told(12, 1), came[i]);
        }
        due(16, "index ahead of that", x.copy(10, 3, 11, 0, 2), INDEX);
        due(16, "up to it", x.copy(10, 0, 11, 1, 3), 3);
        due(16, "sonics are vanes", x.lift(11, 3, 2, 12) + x.told(12, 1), 3);
        due(16, "on itself", x.copy(10, 0, 10, 1, 3), 3);
        x.lift(10, 1, 7, 12);
        due(16, "moved", x.told(12, 1), 1);
        x.lift(10, 3, 7, 12);
        due(16, "moved", x.told(12, 1), 2);
        x.grid(13, 3, 2);
        x.grid(14, 3, -1);
        x.putAt(13, 2, 1, 6);
        due(16, "grids", x.copy(13, 2, 14, 0, 1), 1);
        due(16, "the same row", x.putAt(14, 0, 1, 7) + x.getAt(13, 2, 1), 8);
        due(16, "grid to cradle", x.copy(13, 0, 10, 0, 1), STORE);
        due(16, "missing rows", x.copy(14, 1, 10, 0, 2), 2);
        due(16, "are missing", x.lift(10, 1, 7, 12) + x.holds(12), 0);
        due(16, "cradle to grid", x.copy(10, 0, 14, 0, 4), INDEX);
        due(16, "a part in a grid", x.copy(10, 1, 14, 0, 3), STORE);
        due(16, "the missing one has come", x.putAt(14, 0, 0, 1), NOTHING);
    }

    private static void length() {
        WindPark x = new WindPark(1);
        for (int lane = 0; lane < 8; lane++) {
            x.row(0, lane, lane);
            due(17, "row " + lane, x.length(0, lane), lane);
            due(17, "as another", x.length(0, (lane + 1) % 10), CAST);
        }
        x.grid(1, 5, 2);
        x.cradle(2, 3, 6);
        x.part(3, 0);
        due(17, "grid", x.length(1, 8), 5);
        due(17, "grid as cradle", x.length(1, 9), CAST);
        due(17, "cradle", x.length(2, 9), 6);
        due(17, "cradle as ints", x.length(2, 3), CAST);
        due(17, "part", x.length(3, 9), CAST);
        due(17, "nothing", x.length(9, 9), NOTHING);
        due(17, "as 10", x.length(3, 10), OUTSIDE);
        due(17, "as -1", x.length(9, -1), OUTSIDE);
        due(17, "case", x.length(24, 10), UNKNOWN);
    }

    private static void alike() {
        WindPark x = new WindPark(1);
        due(18, "both empty", x.alike(0, 1), 1);
        for (int lane = 0; lane < 8; lane++) {
            x.row(0, lane, 2);
            x.row(1, lane, 2);
            due(18, "rows " + lane, x.alike(0, 1), 2);
            x.put(1, lane, 1, 1);
            due(18, "unlike " + lane, x.alike(0, 1), 0);
        }
        due(18, "itself", x.alike(0, 0), 1);
        due(18, "empty", x.alike(0, 9), 0);
        due(18, "empty first", x.alike(9, 0), 0);
        x.row(0, 6, 2);
        x.row(1, 6, 2);
        x.put(0, 6, 0, bits(-0.0));
        due(18, "-0.0 has other bits", x.alike(0, 1), 0);
        x.put(0, 6, 0, 0x7FF8000000000001L);
        x.put(1, 6, 0, 0xFFF8000000000001L);
        due(18, "no numbers", x.alike(0, 1), 2);
        x.row(0, 3, 0);
        x.row(1, 4, 0);
        due(18, "lanes", x.alike(0, 1), 0);
        x.row(1, 3, 0);
        due(18, "of none", x.alike(0, 1), 2);
        x.row(1, 3, 1);
        due(18, "lengths", x.alike(0, 1), 0);
        x.grid(0, 2, 2);
        x.grid(1, 2, 2);
        due(18, "grids", x.alike(0, 1), 2);
        x.putAt(0, 1, 1, 3);
        due(18, "grids unlike", x.alike(0, 1), 0);
        x.putAt(1, 1, 1, 3);
        x.link(0, 0, 9);
        due(18, "one missing", x.alike(0, 1), 0);
        due(18, "one missing, turned", x.alike(1, 0), 0);
        x.link(1, 0, 9);
        due(18, "missing alike", x.alike(0, 1), 2);
        x.cradle(2, 3, 2);
        due(18, "grid and cradle", x.alike(1, 2), 0);
        x.cradle(3, 3, 2);
        x.part(4, 3);
        x.part(5, 3);
        x.lay(2, 0, 4);
        due(18, "a part and none", x.alike(2, 3), 0);
        x.lay(3, 0, 5);
        due(18, "other parts", x.alike(2, 3), 0);
        x.lay(3, 0, 4);
        due(18, "same parts", x.alike(2, 3), 2);
        x.cradle(3, 3, 3);
        due(18, "cradles' lengths", x.alike(2, 3), 0);
        due(18, "parts", x.alike(4, 5), 0);
        x.set(4, 5);
        due(18, "one part", x.alike(4, 5), 1);
        due(18, "c", x.alike(24, 0), UNKNOWN);
        due(18, "d", x.alike(0, -1), UNKNOWN);
    }

    private static void traceIs(int promise, String what, WindPark x, int... bodies) {
        for (int i = 0; i < bodies.length; i++) {
            due(promise, what + ", body " + i, x.traced(i), bodies[i]);
        }
        due(promise, what + ", bodies", x.forget(), bodies.length);
    }

    private static void askLimitAndCost() {
        WindPark x = new WindPark(1);
        int[] limits = {40, 30, 50, 50, 100, 60, 66};
        int[][] bodies = {{11}, {12}, {13, 12}, {14}, {15, 14}, {16}, {17, 16}};
        for (int kind = 0; kind < 7; kind++) {
            x.part(kind, kind);
            due(19, "limit of " + kind, x.ask(kind, 0, 0), limits[kind]);
            traceIs(19, "limit of " + kind, x, bodies[kind]);
            due(19, "cost of " + kind, x.ask(kind, 1, 10000), limits[kind] * (kind == 6 ? 15 : 10));
            due(19, "cost's first body", x.traced(0), kind == 6 ? 22 : 21);
            due(19, "cost's second body", x.traced(1), bodies[kind][0]);
            due(19, "cost's bodies", x.forget(), bodies[kind].length + 1);
        }
        for (int serial = 7; serial < 20; serial++) {
            x.part(7, 6);
            due(19, "limit of heavy " + serial, x.ask(7, 0, 0), 60 + serial % 10);
        }
        x.row(8, 3, 1);
        refused(19, "case", x, x.ask(24, 3, -1), UNKNOWN);
        refused(19, "member 3", x, x.ask(0, 3, 0), OUTSIDE);
        refused(19, "member -1", x, x.ask(8, -1, 0), OUTSIDE);
        refused(19, "load -1", x, x.ask(0, 2, -1), OUTSIDE);
        refused(19, "load 10001", x, x.ask(0, 0, 10001), OUTSIDE);
        refused(19, "cast", x, x.ask(8, 0, 0), CAST);
        refused(19, "nothing", x, x.ask(9, 0, 0), NOTHING);
    }

    private static void askWears() {
        WindPark x = new WindPark(1);
        x.part(0, 4);
        refused(19, "serial 0", x, x.ask(0, 2, 0), ZERO);
        traceIs(19, "serial 0", x, 33, 32, 15, 14);
        due(20, "wear of what failed", x.told(0, 2), 0);
        for (int kind = 0; kind < 7; kind++) {
            x.part(kind, kind);
        }
        long[] wears = {70, 70, 70, 98, 49 + 14, 70, 70};
        for (int kind = 0; kind < 7; kind++) {
            due(19, "wears " + kind, x.ask(kind, 2, 70), wears[kind]);
            due(20, "wear " + kind, x.told(kind, 2), wears[kind]);
            due(19, "wears again " + kind, x.ask(kind, 2, 70), wears[kind]);
            due(20, "wear again " + kind, x.told(kind, 2), 2 * wears[kind]);
        }
        x.forget();
        due(19, "cut", x.ask(3, 2, 7), 0);
        traceIs(19, "drive", x, 32, 14);
        due(19, "pitch", x.ask(4, 2, 10000), 1000000 + 2000);
        traceIs(19, "pitch", x, 33, 32, 15, 14);
        x.ask(2, 2, 1);
        traceIs(19, "of all", x, 31);
        x.part(9, 3);
        due(19, "most", x.ask(9, 2, 10000), 2000000);
        for (int i = 0; i < 100; i++) {
            x.ask(9, 2, 10000);
        }
        due(20, "much wear", x.told(9, 2), 202000000L);
    }

    private static void told() {
        WindPark x = new WindPark(1);
        x.part(0, 5);
        x.part(1, 2);
        due(20, "kind", x.told(1, 0), 2);
        due(20, "serial", x.told(1, 1), 1);
        due(20, "wear", x.told(1, 2), 0);
        due(20, "not refused", x.why(), 0);
        x.grid(2, 1, 1);
        refused(20, "case", x, x.told(24, 3), UNKNOWN);
        refused(20, "what 3", x, x.told(2, 3), OUTSIDE);
        refused(20, "what -1", x, x.told(9, -1), OUTSIDE);
        refused(20, "cast", x, x.told(2, 0), CAST);
        refused(20, "nothing", x, x.told(9, 0), NOTHING);
    }

    private static void tracedForget() {
        WindPark x = new WindPark(1);
        x.part(0, 0);
        x.part(1, 6);
        due(21, "none", x.traced(0), NONE);
        due(21, "not refused", x.why(), 0);
        for (int i = 0; i < 59; i++) {
            x.ask(0, 0, 0);
        }
        due(21, "none yet", x.traced(59), NONE);
        x.ask(1, 1, 0);
        due(21, "the 60th", x.traced(59), 22);
        due(21, "no 61st", x.traced(60), NONE);
        due(21, "-1", x.traced(-1), NONE);
        due(39, "bodies", x.count(5), 60);
        due(22, "forget", x.forget(), 60);
        due(22, "again", x.forget(), 0);
        due(21, "forgotten", x.traced(0), NONE);
        x.ask(0, 0, 0);
        due(21, "anew", x.traced(0), 11);
    }

    private static void fill(WindPark x, int c, double... items) {
        x.row(c, 6, items.length);
        for (int i = 0; i < items.length; i++) {
            x.put(c, 6, i, bits(items[i]));
        }
    }

    private static void fillFloats(WindPark x, int c, float... items) {
        x.row(c, 5, items.length);
        for (int i = 0; i < items.length; i++) {
            x.put(c, 5, i, Float.floatToRawIntBits(items[i]));
        }
    }

    private static void secondsAre(WindPark x, int c, int lane, long... want) {
        for (int what = 0; what < 6; what++) {
            due(23, "lane " + lane + " what " + what, x.seconds(c, lane, what), want[what]);
            due(23, "not refused", x.why(), 0);
        }
    }

    private static void seconds() {
        WindPark x = new WindPark(1);
        fill(x, 0, 3.0, Double.NaN, -7.5, 10.0, 4.0);
        secondsAre(x, 0, 6, bits(10.0), bits(-7.5), bits(9.5 / 4), bits(3.0), 2, 4);
        fill(x, 0, 0.1, 0.2, 0.3);
        secondsAre(x, 0, 6, bits(0.3), bits(0.1), bits((0.0 + 0.1 + 0.2 + 0.3) / 3), bits(0.2), 0, 3);
        fill(x, 0, -0.0);
        secondsAre(x, 0, 6, bits(-0.0), bits(-0.0), bits(0.0), bits(-0.0), 0, 1);
        fill(x, 0, 0.0, -0.0);
        secondsAre(x, 0, 6, bits(0.0), bits(-0.0), bits(0.0), bits(-0.0), 0, 2);
        fill(x, 0, -9.0, -2.0, -8.0);
        secondsAre(x, 0, 6, bits(-2.0), bits(-9.0), bits(-19.0 / 3), bits(-8.0), -6, 3);
        fill(x, 0, -Double.MIN_VALUE, -0.0);
        secondsAre(x, 0, 6, bits(-0.0), 0x8000000000000001L, bits(-0.0), 0x8000000000000001L, 0, 2);
        fill(x, 0, 1e18, 2.5e18, 1e-300);
        secondsAre(x, 0, 6, bits(2.5e18), bits(1e-300), bits(3.5e18 / 3), bits(1e18), 3500000000000000000L / 3, 3);
        fillFloats(x, 1, 0.1f, Float.NaN, Float.MIN_VALUE, -3.4e38f);
        double sum = 0.0 + (double) 0.1f + (double) Float.MIN_VALUE + (double) -3.4e38f;
        secondsAre(x, 1, 5, bits(0.1f), bits(-3.4e38f), bits(sum / 3), bits(Float.MIN_VALUE), Long.MIN_VALUE / 3, 3);
        x.row(2, 6, 0);
        for (int what = 0; what < 4; what++) {
            due(23, "of none", x.seconds(2, 6, what), NO_NUMBER);
        }
        refused(23, "of none", x, x.seconds(2, 6, 4), ZERO);
        due(23, "how many", x.seconds(2, 6, 5), 0);
        refused(23, "case", x, x.seconds(24, 4, 6), UNKNOWN);
        refused(23, "lane 4", x, x.seconds(2, 4, 0), OUTSIDE);
        refused(23, "lane 7", x, x.seconds(9, 7, 0), OUTSIDE);
        refused(23, "what 6", x, x.seconds(2, 6, 6), OUTSIDE);
        refused(23, "what -1", x, x.seconds(2, 6, -1), OUTSIDE);
        refused(23, "cast", x, x.seconds(2, 5, 4), CAST);
        refused(23, "nothing", x, x.seconds(9, 5, 4), NOTHING);
    }

    private static void secondsOfEndless() {
        WindPark x = new WindPark(1);
        double endless = Double.POSITIVE_INFINITY;
        fill(x, 0, endless, 1.0);
        secondsAre(x, 0, 6, bits(endless), bits(1.0), bits(endless), bits(1.0), Long.MAX_VALUE / 2, 2);
        fill(x, 0, -endless, 1.0);
        secondsAre(x, 0, 6, bits(1.0), bits(-endless), bits(-endless), bits(-endless), Long.MIN_VALUE / 2, 2);
        fill(x, 0, endless, 1.0, -endless, 5.0);
        secondsAre(x, 0, 6, bits(endless), bits(-endless), NO_NUMBER, bits(1.0), 0, 4);
        fill(x, 0, Double.MAX_VALUE, Double.MAX_VALUE, -Double.MAX_VALUE);
        secondsAre(x, 0, 6, bits(Double.MAX_VALUE), bits(-Double.MAX_VALUE), bits(endless), bits(Double.MAX_VALUE),
            Long.MAX_VALUE / 3, 3);
        fill(x, 0, Double.MAX_VALUE, Double.MAX_VALUE, -endless);
        secondsAre(x, 0, 6, bits(Double.MAX_VALUE), bits(-endless), NO_NUMBER, bits(Double.MAX_VALUE), 0, 3);
        fillFloats(x, 0, Float.POSITIVE_INFINITY, Float.NEGATIVE_INFINITY);
        secondsAre(x, 0, 5, bits(endless), bits(-endless), NO_NUMBER, bits(-endless), 0, 2);
    }

    private static void test() {
        WindPark x = new WindPark(1);
        double[] items = {Double.NaN, -0.0, 0.0, 1.5, -1.5, Double.POSITIVE_INFINITY, Double.NEGATIVE_INFINITY,
            Float.MIN_VALUE, -Float.MIN_VALUE};
        float[] floats = new float[items.length];
        for (int i = 0; i < items.length; i++) {
            floats[i] = (float) items[i];
        }
        fill(x, 0, items);
        fillFloats(x, 1, floats);
        for (int i = 0; i < items.length; i++) {
            for (int j = 0; j < items.length; j++) {
                double a = items[i];
                double b = items[j];
                boolean[] passes = {a < b, a <= b, a > b, a >= b, a == b, a != b};
                for (int t = 0; t < 6; t++) {
                    for (int lane = 5; lane < 7; lane++) {
                        due(24, a + " " + t + " " + b, x.test(6 - lane, lane, i, j, t), passes[t] ? 1 : 0);
                        due(24, a + " denied " + t + " " + b, x.test(6 - lane, lane, i, j, t + 6), passes[t] ? 0 : 1);
                    }
                }
            }
        }
        due(24, "case", x.test(24, 4, 0, 0, 12), UNKNOWN);
        due(24, "lane 4", x.test(0, 4, 0, 0, 0), OUTSIDE);
        due(24, "test 12", x.test(0, 5, 0, 0, 12), OUTSIDE);
        due(24, "test -1", x.test(0, 5, 0, 0, -1), OUTSIDE);
        due(24, "cast", x.test(0, 5, 99, 0, 0), CAST);
        due(24, "nothing", x.test(9, 5, 99, 0, 0), NOTHING);
        due(24, "i", x.test(0, 6, 9, 0, 0), INDEX);
        due(24, "i -1", x.test(0, 6, -1, 0, 0), INDEX);
        due(24, "j", x.test(0, 6, 0, 9, 0), INDEX);
    }

    private static void step() {
        WindPark x = new WindPark(2);
        due(25, "plan", x.step(10, 14, 0, 0, 0), UNKNOWN);
        due(25, "plan -1", x.step(-1, 0, 0, 0, 0), UNKNOWN);
        due(25, "op 14", x.step(0, 14, -1, -1, -1), OUTSIDE);
        due(25, "op -1", x.step(0, -1, -1, -1, -1), OUTSIDE);
        for (int op = TAKE; op <= WRITE; op++) {
            due(25, "case", x.step(0, op, 24, 0, 0), UNKNOWN);
            due(25, "case -1", x.step(0, op, -1, 0, 0), UNKNOWN);
        }
        for (int op = DO; op <= FINALLY; op++) {
            due(25, "plan a", x.step(0, op, 10, 0, 0), UNKNOWN);
        }
        due(25, "plan c of TRY, ahead of b", x.step(0, TRY, 0, 9, 10), UNKNOWN);
        due(25, "b of TRY", x.step(0, TRY, 0, 9, 0), OUTSIDE);
        due(25, "b of TRY -1", x.step(0, TRY, 0, -1, 0), OUTSIDE);
        due(25, "plan b of FINALLY", x.step(0, FINALLY, 0, -1, 0), UNKNOWN);
        due(25, "plan b of HOLD", x.step(0, HOLDING, 0, 10, 0), UNKNOWN);
        for (int op = HOLDING; op <= STRIP; op++) {
            due(25, "turbine", x.step(0, op, 2, 0, 0), UNKNOWN);
            due(25, "turbine -1", x.step(0, op, -1, 0, 0), UNKNOWN);
        }
        for (int op = FIT; op <= STRIP; op++) {
            due(25, "slot", x.step(0, op, 1, 5, 0), UNKNOWN);
            due(25, "slot -1", x.step(0, op, 1, -1, 0), UNKNOWN);
        }
        due(25, "FAIL 0", x.step(0, FAIL, 0, 0, 0), OUTSIDE);
        due(25, "FAIL 9", x.step(0, FAIL, 9, 0, 0), OUTSIDE);
        due(25, "nothing changed", x.drop(0), 0);
        due(25, "what is not used may be anything", x.step(1, SAY, -99, 1 << 30, -5), 1);
        int[][] good = {{TAKE, 23, -1, 99}, {LAY, 0, 99, 99}, {WRITE, 23, -7, 7}, {ANSWER, 99, 99, 99},
            {SAY_LAST, -1, -1, -1}, {FAIL, 8, -1, -1}, {DO, 9, -1, -1}, {TRY, 9, 8, 9}, {TRY, 0, 0, 0},
            {FINALLY, 9, 9, -1}, {HOLDING, 1, 9, -1}, {WAKE, 1, 99, 99}, {FIT, 1, 4, 99}, {STRIP, 1, 0, 99}, {FAIL, 1, 0, 0}};
        for (int i = 0; i < good.length; i++) {
            due(25, "step " + i, x.step(1, good[i][0], good[i][1], good[i][2], good[i][3]), i + 2);
        }
        due(25, "the 17th", x.step(1, SAY, 0, 0, 0), ROOM);
        due(25, "wrong ahead of room", x.step(1, FAIL, 0, 0, 0), OUTSIDE);
        due(25, "another plan", x.step(9, SAY, 0, 0, 0), 1);
    }

    private static void drop() {
        WindPark x = new WindPark(1);
        x.step(3, SAY, 1, 0, 0);
        x.step(3, SAY, 2, 0, 0);
        due(26, "drop", x.drop(3), 2);
        due(26, "again", x.drop(3), 0);
        due(26, "no steps", x.act(3) + x.acted(3), 0);
        due(26, "plan", x.drop(10), UNKNOWN);
        due(26, "plan -1", x.drop(-1), UNKNOWN);
        due(27, "plan", x.act(10), UNKNOWN);
        due(27, "plan -1", x.act(-1), UNKNOWN);
    }

    /** Plans from rows of plan, op, a, b, c, in place of all that there were. */
    private static void plans(WindPark x, int[]... steps) {
        for (int p = 0; p < 10; p++) {
            x.drop(p);
        }
        for (int[] s : steps) {
            int got = x.step(s[0], s[1], s.length > 2 ? s[2] : 0, s.length > 3 ? s[3] : 0, s.length > 4 ? s[4] : 0);
            due(25, "step", got > 0 ? 1 : got, 1);
        }
    }

    private static int[] st(int... s) {
        return s;
    }

    private static void takeAndLay() {
        WindPark x = new WindPark(1);
        x.row(0, 3, 1);
        x.part(1, 0);
        plans(x, st(0, TAKE, 0), st(0, TAKE, 1), st(0, LAY, 0), st(0, LAY, 1));
        due(27, "swap", x.act(0), 0);
        due(27, "swapped", x.holds(0) * 100 + x.holds(1), 1003);
        due(28, "nothing went back", x.acted(5), 0);
        plans(x, st(0, TAKE, 5));
        due(27, "TAKE of an empty case", x.act(0), NOTHING);
        plans(x, st(0, LAY, 0));
        due(27, "LAY of no hand, ahead of store", x.act(0), NOTHING);
        plans(x, st(0, TAKE, 0), st(0, LAY, 1));
        due(27, "LAY into a full case", x.act(0), STORE);
        due(27, "as ahead", x.holds(0), 10);
        plans(x, st(0, TAKE, 0), st(0, LAY, 23), st(0, LAY, 22));
        due(27, "LAY twice", x.act(0), NOTHING);
        plans(x, st(0, TAKE, 0), st(0, TAKE, 0));
        due(27, "TAKE twice", x.act(0), NOTHING);
    }

    private static void write() {
        WindPark x = new WindPark(1);
        x.row(0, 3, 2);
        x.row(1, 4, 2);
        plans(x, st(0, WRITE, 0, 1, -5));
        due(27, "WRITE", x.act(0) + x.get(0, 3, 1), -5);
        plans(x, st(0, WRITE, 1, 9, 1));
        due(27, "cast", x.act(0), CAST);
        plans(x, st(0, WRITE, 9, 9, 1));
        due(27, "nothing", x.act(0), NOTHING);
        plans(x, st(0, WRITE, 0, 2, 1));
        due(27, "index", x.act(0), INDEX);
        plans(x, st(0, WRITE, 0, -1, 1));
        due(27, "index -1", x.act(0), INDEX);
    }

    private static void sayAndAnswer() {
        WindPark x = new WindPark(1);
        plans(x, st(0, SAY, 5), st(0, SAY_LAST), st(0, DO, 1), st(0, SAY_LAST), st(0, DO, 2), st(0, SAY_LAST),
            st(0, ANSWER, -9), st(0, SAY, 6), st(1, ANSWER, 44), st(1, SAY, 7), st(2, SAY, 8));
        due(27, "answers", x.act(0), 1);
        due(28, "answer", x.acted(0), -9);
        int[] said = {5, 0, 44, 8, 44};
        for (int i = 0; i < 5; i++) {
            due(29, "said " + i, x.said(i), said[i]);
        }
        due(28, "how often", x.acted(3), 5);
        due(28, "steps", x.acted(1), 9);
        due(28, "deep", x.acted(2), 2);
        plans(x, st(0, SAY_LAST));
        x.act(0);
        due(29, "LAST is 0 anew", x.said(0), 0);
        for (int f = 1; f <= 8; f++) {
            plans(x, st(0, SAY, 1), st(0, FAIL, f), st(0, SAY, 2));
            due(27, "FAIL", x.act(0), -10 - f);
            due(38, "why", x.why(), -10 - f);
            due(28, "said ahead of it", x.acted(3), 1);
            due(28, "no answer", x.acted(0), 0);
        }
    }

    private static void tryPlans() {
        WindPark x = new WindPark(1);
        for (int failure = 1; failure <= 8; failure++) {
            for (int caught = 0; caught <= 8; caught++) {
                plans(x, st(0, TRY, 1, caught, 2), st(0, SAY, 3), st(1, SAY, 1), st(1, FAIL, failure), st(2, SAY, 2));
                boolean is = caught == 0 || caught == failure;
                due(27, "TRY " + caught + " of " + failure, x.act(0), is ? 0 : -10 - failure);
                due(28, "said", x.acted(3), is ? 3 : 1);
            }
        }
        plans(x, st(0, TRY, 1, 0, 2), st(0, SAY, 3), st(1, SAY, 1), st(2, SAY, 2));
        due(27, "without failure", x.act(0) + x.acted(3), 2);
        due(29, "then goes on", x.said(1), 3);
        plans(x, st(0, TRY, 1, 0, 2), st(0, SAY, 3), st(1, ANSWER, 6));
        due(27, "an answer is one of the plan around", x.act(0) + x.acted(0), 7);
        due(28, "and ends it", x.acted(3), 0);
        plans(x, st(0, DO, 3), st(0, SAY_LAST), st(3, TRY, 1, 0, 2), st(3, SAY, 9), st(1, FAIL, 3), st(2, ANSWER, 5));
        due(27, "within DO", x.act(0), 0);
        due(29, "it is LAST", x.said(0), 5);
        plans(x, st(0, TRY, 1, 0, 2), st(1, FAIL, 3), st(2, FAIL, 4));
        due(27, "a failure in its stead", x.act(0), CAST);
        due(28, "is no cause", x.acted(4), 0);
        x.row(0, 3, 1);
        plans(x, st(0, TRY, 1, 0, 2), st(1, WRITE, 0, 0, 8), st(1, FAIL, 1));
        due(27, "what was caught is not undone", x.act(0) + x.get(0, 3, 0), 8);
    }

    private static void finallyPlans() {
        WindPark x = new WindPark(1);
        plans(x, st(0, FINALLY, 1, 2), st(0, SAY, 3), st(1, SAY, 1), st(2, SAY, 2));
        due(27, "both end", x.act(0) + x.acted(3), 3);
        plans(x, st(0, FINALLY, 1, 2), st(0, SAY, 3), st(1, ANSWER, 7), st(2, DO, 3), st(2, SAY_LAST), st(3, ANSWER, 8));
        due(27, "the answer stands", x.act(0), 1);
        due(28, "the answer of a", x.acted(0), 7);
        due(29, "LAST of b", x.said(0), 8);
        due(28, "the plan around ended", x.acted(3), 1);
        plans(x, st(0, FINALLY, 1, 2), st(1, ANSWER, 7), st(2, ANSWER, 8));
        due(28, "b's answer", x.act(0) * 100 + x.acted(0), 108);
        due(28, "no cause", x.acted(4), 0);
        plans(x, st(0, FINALLY, 1, 2), st(1, FAIL, 7), st(2, SAY, 8));
        due(27, "the failure stands", x.act(0), HOLD);
        due(28, "no cause", x.acted(4), 0);
        plans(x, st(0, FINALLY, 1, 2), st(1, FAIL, 7), st(2, FAIL, 3));
        due(27, "b's failure", x.act(0), SIZE);
        due(28, "cause", x.acted(4), 7);
        plans(x, st(0, FINALLY, 1, 2), st(1, FAIL, 7), st(2, ANSWER, 3));
        due(27, "b's answer", x.act(0) * 10 + x.acted(0), 13);
        due(28, "cause of an act that answers", x.acted(4), 7);
        plans(x, st(0, TRY, 1, 0, 9), st(0, FINALLY, 4, 5), st(1, FINALLY, 2, 3), st(2, FAIL, 1), st(3, FAIL, 2),
            st(4, FAIL, 4), st(5, ANSWER, 1));
        due(27, "two causes", x.act(0), 1);
        due(28, "the latest", x.acted(4), 4);
        plans(x, st(0, SAY, 1));
        x.act(0);
        due(28, "cause of a new act", x.acted(4), 0);
    }

    private static void holdAndWake() {
        WindPark x = new WindPark(2);
        plans(x, st(0, WAKE, 0));
        due(27, "WAKE without HOLD", x.act(0), HOLD);
        plans(x, st(0, HOLDING, 0, 1), st(1, WAKE, 0), st(1, HOLDING, 0, 2), st(1, WAKE, 0), st(2, WAKE, 0),
            st(2, TRY, 3, 7, 4), st(3, WAKE, 1), st(4, SAY, 9));
        due(27, "held", x.act(0), 0);
        int[] said = {1, 2, 9, 1};
        for (int i = 0; i < 4; i++) {
            due(29, "held how often", x.said(i), said[i]);
        }
        plans(x, st(0, TRY, 1, 1, 2), st(0, WAKE, 0), st(1, HOLDING, 0, 3), st(3, FAIL, 1));
        due(27, "let go behind a failure", x.act(0), HOLD);
        plans(x, st(0, DO, 1), st(0, WAKE, 0), st(1, HOLDING, 0, 3), st(3, ANSWER, 1));
        due(27, "let go behind an answer", x.act(0), HOLD);
        plans(x, st(0, HOLDING, 0, 1), st(0, SAY, 1), st(1, ANSWER, 4));
        due(27, "a piece", x.act(0) * 10 + x.acted(0), 14);
        plans(x, st(0, DO, 0), st(1, WAKE, 0));
        due(27, "deep", x.act(0), DEEP);
        plans(x, st(0, HOLDING, 0, 0));
        due(27, "held and deep", x.act(0), DEEP);
        due(27, "not held between calls", x.act(0), DEEP);
        plans(x, st(1, WAKE, 0));
        due(27, "not held between calls", x.act(1), HOLD);
    }

    private static void fitAndStrip() {
        int[] fits = {0b0000111, 0b0000111, 0b0000111, 0b0011000, 0b1100000};
        for (int slot = 0; slot < 5; slot++) {
            for (int kind = 0; kind < 7; kind++) {
                WindPark x = new WindPark(1);
                x.part(0, kind);
                plans(x, st(0, TAKE, 0), st(0, HOLDING, 0, 1), st(1, FIT, 0, slot));
                boolean is = (fits[slot] >> kind & 1) == 1;
                due(27, kind + " into " + slot, x.act(0), is ? 0 : CAST);
                due(36, "slot", x.of(0, 8 + slot), is ? 0 : NONE);
                due(27, "the case", x.holds(0), is ? NONE : 10);
            }
        }
        WindPark x = new WindPark(1);
        x.row(0, 3, 1);
        x.part(1, 3);
        x.part(2, 4);
        x.part(3, 0);
        plans(x, st(0, TAKE, 0), st(0, FIT, 0, 0));
        due(27, "a row", x.act(0), CAST);
        plans(x, st(0, FIT, 0, 0));
        due(27, "no hand", x.act(0), NOTHING);
        plans(x, st(0, FIT, 0, 3));
        due(27, "hold ahead of nothing", x.act(0), HOLD);
        plans(x, st(0, STRIP, 0, 4));
        due(27, "hold ahead of nothing", x.act(0), HOLD);
        plans(x, st(0, STRIP, 0, 2));
        due(27, "bare", x.act(0), NOTHING);
        plans(x, st(0, TAKE, 3), st(0, FIT, 0, 2));
        due(27, "a sensor without hold", x.act(0) + x.of(0, 10), 2);
        plans(x, st(0, TAKE, 1), st(0, HOLDING, 0, 1), st(1, FIT, 0, 3));
        due(27, "a drive", x.act(0) + x.of(0, 11), 0);
        plans(x, st(0, TAKE, 2), st(0, HOLDING, 0, 1), st(1, FIT, 0, 3));
        due(27, "another", x.act(0) + x.of(0, 11), 1);
        due(28, "what was there went back", x.acted(5), 1);
        due(27, "into case 23", x.told(23, 1), 0);
        plans(x, st(0, HOLDING, 0, 1), st(1, STRIP, 0, 3));
        due(27, "STRIP", x.act(0) + x.of(0, 11), NONE);
        due(27, "case 23 is full: the least", x.told(1, 1), 1);
        plans(x, st(0, STRIP, 0, 2), st(0, LAY, 5));
        due(27, "STRIP and LAY", x.act(0) + x.told(5, 1), 2);
    }

    private static void deepAndSpent() {
        WindPark x = new WindPark(1);
        plans(x, st(0, DO, 1), st(1, DO, 2), st(2, DO, 3), st(3, DO, 4), st(4, DO, 5), st(5, DO, 6), st(6, DO, 7));
        due(27, "eight", x.act(0) * 100 + x.acted(2), 8);
        x.step(7, DO, 8, 0, 0);
        due(27, "nine", x.act(0), DEEP);
        due(28, "deep", x.acted(2), 8);
        due(28, "steps", x.acted(1), 8);
        x.drop(7);
        x.step(7, TRY, 8, 8, 9);
        due(27, "neither can begin", x.act(0), DEEP);
        x.drop(7);
        x.step(7, FINALLY, 8, 9, 0);
        due(27, "nor the final one", x.act(0), DEEP);
        due(28, "which puts the first aside", x.acted(4), 8);
        x.drop(6);
        x.step(6, TRY, 7, 8, 9);
        x.step(9, ANSWER, 3, 0, 0);
        due(27, "caught above", x.act(0), 0);
        x.drop(0);
        x.step(0, DO, 0, 0, 0);
        due(27, "of itself", x.act(0) * 100 - x.acted(1), DEEP * 100 - 8);

        int[][] sixteen = new int[23][];
        for (int i = 0; i < 16; i++) {
            sixteen[i] = st(1, SAY, i);
        }
        for (int i = 16; i < 22; i++) {
            sixteen[i] = st(0, DO, 1);
        }
        sixteen[22] = st(0, ANSWER, 2);
        plans(x, sixteen);
        due(27, "the 103rd", x.act(0), SPENT);
        due(28, "steps", x.acted(1), 100);
        due(28, "said", x.acted(3), 94);
        due(29, "kept", x.said(59), 59 % 16);
        due(29, "lost", x.said(60), 0);
        x.drop(1);
        for (int i = 0; i < 15; i++) {
            x.step(1, SAY, i, 0, 0);
        }
        x.drop(0);
        for (int i = 0; i < 6; i++) {
            x.step(0, DO, 1, 0, 0);
        }
        for (int i = 0; i < 3; i++) {
            x.step(0, SAY, 1, 0, 0);
        }
        due(27, "99", x.act(0) * 1000 + x.acted(1), 99);
        x.step(0, SAY, 1, 0, 0);
        due(27, "100", x.act(0) * 1000 + x.acted(1), 100);
        x.step(0, DO, 9, 0, 0);
        due(27, "101", x.act(0), SPENT);
        spentIsNotCaught();
    }

    private static void spentIsNotCaught() {
        WindPark x = new WindPark(1);
        plans(x, st(0, TRY, 1, 0, 2), st(1, FINALLY, 3, 2), st(2, SAY, 99), st(4, SAY, 1));
        for (int i = 0; i < 15; i++) {
            x.step(4, SAY, 1, 0, 0);
        }
        for (int i = 0; i < 16; i++) {
            x.step(3, DO, 4, 0, 0);
        }
        due(27, "neither TRY nor FINALLY", x.act(0), SPENT);
        due(28, "steps", x.acted(1), 100);
        x.drop(2);
        due(27, "not even by a plan that needs no step", x.act(0), SPENT);
        due(28, "steps", x.acted(1), 100);
        plans(x, st(0, FINALLY, 1, 3), st(1, FAIL, 2), st(4, SAY, 1));
        for (int i = 0; i < 15; i++) {
            x.step(4, SAY, 1, 0, 0);
        }
        for (int i = 0; i < 16; i++) {
            x.step(3, DO, 4, 0, 0);
        }
        due(27, "the final one is spent", x.act(0), SPENT);
        due(28, "and puts the first aside", x.acted(4), 2);
    }

    private static void goesBack() {
        WindPark x = new WindPark(1);
        for (int c = 0; c < 4; c++) {
            x.part(c, 0);
        }
        plans(x, st(0, TAKE, 0), st(0, TAKE, 1), st(0, TAKE, 2), st(0, LAY, 0), st(0, ANSWER, 1));
        due(27, "act", x.act(0), 1);
        due(28, "went back", x.acted(5), 2);
        due(27, "case 0 as laid", x.told(0, 1), 2);
        due(27, "case 1 to its own", x.told(1, 1), 1);
        due(27, "the first to the least empty", x.told(2, 1), 0);
        // One thing in two cases, taken from both.
        x.set(0, 5);
        plans(x, st(0, TAKE, 5), st(0, TAKE, 0), st(0, LAY, 5));
        due(27, "act", x.act(0) * 10 + x.acted(5), 1);
        due(27, "the case was laid into", x.alike(0, 5), 1);
        WindPark y = new WindPark(1);
        y.part(0, 0);
        plans(y, st(0, TAKE, 0), st(0, FIT, 0, 1));
        y.act(0);
        for (int c = 0; c < 24; c++) {
            y.row(c, 0, c);
        }
        plans(y, st(0, STRIP, 0, 1));
        due(27, "no empty case", y.act(0), 0);
        due(28, "gone", y.acted(5), 0);
        due(36, "gone from the slot", y.of(0, 9), NONE);
        due(39, "cases", y.count(2), 24);
        due(27, "as it was", y.length(23, 0), 23);
    }

    private static void undone() {
        WindPark x = new WindPark(2);
        x.row(0, 3, 3);
        x.put(0, 3, 0, 1);
        x.grid(1, 1, -1);
        x.link(1, 0, 0);
        x.part(2, 0);
        x.part(3, 0);
        plans(x, st(0, TAKE, 2), st(0, FIT, 1, 0));
        x.act(0);
        plans(x, st(0, WRITE, 0, 0, 5), st(0, WRITE, 0, 0, 6), st(0, WRITE, 0, 2, 7), st(0, TAKE, 3), st(0, FIT, 1, 0),
            st(0, LAY, 9), st(0, TAKE, 0), st(0, TAKE, 1), st(0, LAY, 10), st(0, SAY, 4), st(0, FAIL, 2));
        due(27, "fails", x.act(0), INDEX);
        due(27, "item", x.get(0, 3, 0), 1);
        due(27, "item by the grid", x.getAt(1, 0, 0), 1);
        due(27, "item 2", x.get(0, 3, 2), 0);
        due(27, "slot", x.of(1, 8), 0);
        due(27, "case 3", x.told(3, 1), 1);
        due(27, "cases", x.count(2), 3);
        due(27, "case 9", x.holds(9), NONE);
        due(28, "none went back", x.acted(5), 0);
        due(29, "the log stays", x.said(0), 4);
        x.step(0, SAY, 1, 0, 0);
        plans(x, st(0, TAKE, 3), st(0, FIT, 1, 0), st(0, LAY, 9), st(0, ANSWER, 2));
        due(27, "not undone", x.act(0) + x.of(1, 8) + x.told(9, 1), 2);
    }

    private static void acted() {
        WindPark x = new WindPark(1);
        for (int what = 0; what < 6; what++) {
            due(28, "before", x.acted(what), 0);
        }
        due(28, "6", x.acted(6), OUTSIDE);
        due(28, "-1", x.acted(-1), OUTSIDE);
        plans(x, st(0, ANSWER, -3));
        x.act(0);
        due(28, "a negative answer", x.acted(0), -3);
        due(28, "is not refused", x.why(), 0);
        x.act(10);
        due(28, "a refused act is none", x.acted(0), -3);
    }

    private static void said() {
        WindPark x = new WindPark(1);
        due(29, "before", x.said(0), 0);
        plans(x, st(0, SAY, Integer.MIN_VALUE), st(0, SAY, 2));
        x.act(0);
        due(29, "first", x.said(0), Integer.MIN_VALUE);
        due(29, "is not refused", x.why(), 0);
        due(29, "second", x.said(1), 2);
        due(29, "third", x.said(2), 0);
        due(29, "-1", x.said(-1), 0);
        due(29, "is not refused", x.why(), 0);
        plans(x, st(0, SAY, 7));
        x.act(0);
        due(29, "of the latest alone", x.said(1), 0);
    }

    private static void place() {
        WindPark x = new WindPark(2);
        due(30, "edges", x.place(1, -100, 100), 1);
        due(30, "turbine", x.place(2, 101, 0), UNKNOWN);
        due(30, "turbine -1", x.place(-1, 0, 0), UNKNOWN);
        due(30, "other edges", x.place(1, 100, -100), 1);
        int[][] bad = {{101, 0}, {-101, 0}, {0, 101}, {0, -101}};
        for (int[] b : bad) {
            due(30, "outside", x.place(0, b[0], b[1]), OUTSIDE);
        }
    }

    private static void read() {
        WindPark x = new WindPark(2);
        due(31, "1000", x.read(1, 2, bits(1000.0)), 1);
        due(31, "-1000", x.read(1, 2, bits(-1000.0)), 1);
        due(31, "no number", x.read(1, 2, 0xFFFFFFFFFFFFFFFFL), 1);
        due(31, "-0.0", x.read(1, 0, bits(-0.0)), 1);
        due(31, "above", x.read(0, 0, bits(Math.nextUp(1000.0))), OUTSIDE);
        due(31, "below", x.read(0, 0, bits(Math.nextDown(-1000.0))), OUTSIDE);
        due(31, "endless", x.read(0, 0, bits(Double.POSITIVE_INFINITY)), OUTSIDE);
        due(31, "endless below", x.read(0, 0, bits(Double.NEGATIVE_INFINITY)), OUTSIDE);
        due(31, "turbine", x.read(2, 0, bits(2000.0)), UNKNOWN);
        due(31, "sensor", x.read(0, 3, bits(2000.0)), UNKNOWN);
        due(31, "sensor -1", x.read(0, -1, 0), UNKNOWN);
    }

    private static void windAndBound() {
        WindPark x = new WindPark(2);
        due(32, "0", x.wind(0, true), 1);
        due(32, "7", x.wind(7, false), 1);
        due(32, "8", x.wind(8, true), OUTSIDE);
        due(32, "-1", x.wind(-1, true), OUTSIDE);
        double[] good = {0.0, -0.0, 0.5, 1e300, Double.MAX_VALUE, Double.MIN_VALUE, Double.POSITIVE_INFINITY, 1.0 / 3};
        for (double d : good) {
            due(33, "bound " + d, x.bound(1, bits(d)), 1);
            due(36, "is " + d, x.of(1, 5), bits(d));
        }
        double[] bad = {-Double.MIN_VALUE, -1.0, Double.NEGATIVE_INFINITY, Double.NaN};
        for (double d : bad) {
            due(33, "bound " + d, x.bound(1, bits(d)), OUTSIDE);
        }
        due(33, "as it was", x.of(1, 5), bits(1.0 / 3));
        due(33, "turbine", x.bound(2, bits(-1.0)), UNKNOWN);
        due(36, "bound at first", x.of(0, 5), bits(1000.0));
    }

    private static final int CUPS = 0, DRIVE = 3, BLADE = 5;

    /** A part of a kind into a slot. */
    private static void fit(WindPark x, int t, int slot, int kind) {
        due(5, "part", x.part(0, kind) >= 0 ? 1 : 0, 1);
        plans(x, st(8, TAKE, 0), st(8, HOLDING, t, 9), st(9, FIT, t, slot));
        due(27, "fit", x.act(8), 0);
        x.clear(23);
    }

    /** A turbine with one sensor, a drive and a blade, the sensor reading so. */
    private static void equip(WindPark x, int t, double reading) {
        fit(x, t, 0, CUPS);
        fit(x, t, 3, DRIVE);
        fit(x, t, 4, BLADE);
        x.read(t, 0, bits(reading));
    }

    private static void runStates() {
        WindPark x = new WindPark(1);
        due(34, "0", x.run(0), OUTSIDE);
        due(34, "41", x.run(41), OUTSIDE);
        due(34, "-1", x.run(-1), OUTSIDE);
        due(39, "no steps", x.count(3), 0);
        equip(x, 0, 3.9);
        x.run(1);
        due(34, "too little wind", x.of(0, 0), WAITING);
        x.read(0, 0, bits(4.0));
        x.bound(0, bits(0.0));
        x.run(1);
        due(34, "no bound", x.of(0, 0), WAITING);
        x.bound(0, bits(Double.MIN_VALUE));
        x.run(1);
        due(34, "just enough", x.of(0, 0), STARTING);
        x.read(0, 0, NO_NUMBER);
        x.run(1);
        due(34, "blind", x.of(0, 0), STOPPING);
        x.read(0, 0, bits(12.0));
        due(34, "turns are few", x.of(0, 3) < bits(0.5) ? 1 : 0, 1);
        x.run(1);
        due(34, "stopped", x.of(0, 0), WAITING);
        x.bound(0, bits(1000.0));
        x.run(1);
        due(34, "starts", x.of(0, 0), STARTING);
        for (int i = 0; i < 39; i++) {
            double turns = Double.longBitsToDouble(x.of(0, 3));
            x.run(1);
            due(34, "making from 6.0 on", x.of(0, 0), turns >= 6.0 ? MAKING : STARTING);
            if (x.of(0, 0) == MAKING) {
                break;
            }
        }
        due(34, "makes", x.of(0, 0), MAKING);
        x.read(0, 0, bits(1000.0));
        for (int i = 0; i < 10 && x.of(0, 0) == MAKING; i++) {
            double turns = Double.longBitsToDouble(x.of(0, 3));
            x.run(1);
            due(34, "stopping above 16.0", x.of(0, 0), turns > 16.0 ? STOPPING : MAKING);
        }
        due(34, "stops", x.of(0, 0), STOPPING);
        due(34, "no findings", x.count(4), 0);
    }

    /** The same arithmetic as the document's, with the library's functions. */
    private static void runPitchTorqueTurns() {
        WindPark x = new WindPark(1);
        equip(x, 0, 11.0);
        x.bound(0, bits(20.0));
        double pitch = 90.0;
        double torque = 0.0;
        double turns = 0.0;
        double energy = 0.0;
        int state = WAITING;
        long driveWear = 0;
        long bladeWear = 0;
        for (int i = 1; i <= 120; i++) {
            if (i == 100) {
                x.read(0, 0, NO_NUMBER);
            }
            double wind = i >= 100 ? 0.0 : 11.0;
            if ((state == STARTING || state == MAKING) && (i >= 100 || turns > 16.0)) {
                state = STOPPING;
            } else if (state == WAITING && wind >= 4.0) {
                state = STARTING;
            } else if (state == STARTING && turns >= 6.0) {
                state = MAKING;
            } else if (state == STOPPING && turns < 0.5) {
                state = WAITING;
            }
            double goal = state == STARTING ? 20.0 : state != MAKING ? 90.0
                : turns <= 10.0 ? 0.0 : Math.min(90.0, (turns - 10.0) * 8.0);
            double rate = state == STOPPING ? 12.0 : 6.0;
            double by = Math.max(-rate, Math.min(rate, goal - pitch));
            if (by != 0.0) {
                driveWear += (long) Math.abs(by) * (long) Math.abs(by) / 50;
                pitch = pitch + by;
            }
            double q = torque + Math.max(-0.5, Math.min(0.5, turns * 0.5 - torque));
            torque = state == MAKING ? Math.max(0.0, q) : torque / 2.0;
            turns = Math.max(0.0, turns + 0.1 * (wind * (1.0 - pitch / 90.0) - torque - 0.1 * turns));
            if (torque * turns > 20.0) {
                torque = 20.0 / turns;
            }
            energy = energy + torque * turns;
            bladeWear += state == MAKING ? 11 : 0;
            due(34, "findings", x.run(1), 0);
            long[] want = {state, bits(pitch), bits(torque), bits(turns), bits(energy), bits(20.0),
                i >= 100 ? NO_NUMBER : bits(11.0), bits(wind)};
            for (int what = 0; what < 8; what++) {
                due(36, "step " + i + " what " + what, x.of(0, what), want[what]);
            }
        }
        due(34, "energy came", energy > 0.0 ? 1 : 0, 1);
        plans(x, st(0, HOLDING, 0, 1), st(1, STRIP, 0, 3), st(1, LAY, 5), st(1, STRIP, 0, 4), st(1, LAY, 6));
        x.act(0);
        due(34, "wear of the drive", x.told(5, 2), driveWear);
        due(34, "wear of the blade", x.told(6, 2), bladeWear);
    }

    private static void voteIs(String what, WindPark x, double a, double b, double c, double want) {
        x.read(0, 0, bits(a));
        x.read(0, 1, bits(b));
        x.read(0, 2, bits(c));
        x.run(1);
        due(34, "vote, " + what, x.of(0, 6), bits(want));
        due(34, "wind, " + what, x.of(0, 7), Double.isNaN(want) ? 0L : bits(want));
    }

    private static void runVote() {
        WindPark x = new WindPark(1);
        double none = Double.NaN;
        due(36, "vote before", x.of(0, 6), 0);
        due(36, "wind before", x.of(0, 7), 0);
        voteIs("all bare", x, 1.0, 2.0, 3.0, none);
        fit(x, 0, 1, 1);
        voteIs("one", x, 1.0, 2.0, 3.0, 2.0);
        voteIs("one that is no number", x, 1.0, none, 3.0, none);
        fit(x, 0, 2, 2);
        voteIs("two", x, -9.0, 2.0, 1.5, 1.5);
        voteIs("two, the lesser", x, -9.0, -2.0, -1.5, -2.0);
        voteIs("zeros", x, -9.0, 0.0, -0.0, -0.0);
        voteIs("one left", x, -9.0, none, 1.5, 1.5);
        fit(x, 0, 0, 0);
        voteIs("three", x, 3.0, 1.0, 2.0, 2.0);
        voteIs("three", x, 1.0, 3.0, 2.0, 2.0);
        voteIs("three", x, 2.0, 1.0, 3.0, 2.0);
        voteIs("three zeros", x, 0.0, -0.0, 0.0, 0.0);
        voteIs("three below", x, -3.0, -1.0, -2.0, -2.0);
        voteIs("two of three", x, 3.0, none, 2.0, 2.0);
        voteIs("none of three", x, none, none, none, none);
        voteIs("edges", x, 1000.0, -1000.0, Double.MIN_VALUE, Double.MIN_VALUE);
    }

    private static void runCold() {
        WindPark x = new WindPark(1);
        x.wind(0, true);
        fit(x, 0, 0, CUPS);
        x.read(0, 0, bits(2.0));
        x.run(1);
        due(34, "first", x.of(0, 6), bits(2.0));
        x.run(1);
        due(34, "second", x.of(0, 6), bits(2.0));
        x.run(1);
        due(34, "third is frozen", x.of(0, 6), NO_NUMBER);
        x.wind(0, false);
        x.run(1);
        due(34, "not in the warm", x.of(0, 6), bits(2.0));
        x.wind(0, true);
        x.read(0, 0, bits(3.0));
        x.run(1);
        due(34, "other than both", x.of(0, 6), bits(3.0));
        x.run(1);
        due(34, "other than one", x.of(0, 6), bits(3.0));
        x.run(1);
        due(34, "frozen again", x.of(0, 6), NO_NUMBER);
        x.read(0, 0, bits(2.0));
        x.run(1);
        x.read(0, 0, bits(3.0));
        x.run(1);
        due(34, "other than the latest", x.of(0, 6), bits(3.0));
        x.read(0, 0, bits(0.0));
        x.run(1);
        x.read(0, 0, bits(-0.0));
        x.run(1);
        due(34, "-0.0 has other bits", x.of(0, 6), bits(-0.0));
        // What was ahead of the first step is no reading, least of all 0.0.
        WindPark w = new WindPark(1);
        w.wind(0, true);
        fit(w, 0, 0, CUPS);
        w.read(0, 0, bits(0.0));
        for (int i = 0; i < 3; i++) {
            w.run(1);
            due(34, "0.0 in step " + i, w.of(0, 6), i < 2 ? bits(0.0) : NO_NUMBER);
        }
        // The readings of a bare slot are remembered, too.
        WindPark y = new WindPark(1);
        y.wind(0, true);
        y.read(0, 1, bits(5.0));
        y.run(2);
        fit(y, 0, 1, CUPS);
        y.run(1);
        due(34, "frozen while bare", y.of(0, 6), NO_NUMBER);
        // And of a turbine that has failed.
        WindPark z = new WindPark(1);
        fit(z, 0, 0, CUPS);
        z.read(0, 0, bits(9.0));
        due(34, "fails", z.run(1), 1);
        z.read(0, 0, bits(8.0));
        z.wind(0, true);
        due(34, "stays", z.run(2), 0);
        due(34, "vote as it was", z.of(0, 6), bits(9.0));
        z.reset(0);
        z.run(1);
        due(34, "frozen while failed", z.of(0, 6), NO_NUMBER);
    }

    /** Turbine 0 makes, the others stand where told; the wind of the last of them. */
    private static double windBehind(int direction, int[][] places, int making) {
        WindPark x = new WindPark(places.length);
        x.wind(direction, false);
        for (int t = 0; t < places.length; t++) {
            // All apart across the wind, so that they start without wakes.
            x.place(t, 0, 0);
            if (t < making) {
                equip(x, t, 12.0);
            } else {
                fit(x, t, 0, CUPS);
                x.read(t, 0, bits(3.0));
            }
        }
        x.run(40);
        for (int t = 0; t < making; t++) {
            due(34, "makes", x.of(t, 0), MAKING);
        }
        for (int t = 0; t < places.length; t++) {
            x.place(t, places[t][0], places[t][1]);
            x.read(t, 0, bits(3.0));
        }
        x.run(1);
        return Double.longBitsToDouble(x.of(places.length - 1, 7));
    }

    private static double wakeOf(int... lines) {
        double sum = 0.0;
        for (int p : lines) {
            double e = 1.0 + p * 0.1;
            double d = 0.6 / (e * e);
            sum = sum + d * d;
        }
        return 3.0 * (1.0 - Math.min(1.0, Math.sqrt(sum)));
    }

    private static void wakeIs(String what, double got, double want) {
        due(34, "wake " + what, bits(got), bits(want));
    }

    private static void runWakes() {
        wakeIs("behind", windBehind(0, new int[][] {{0, 0}, {1, 0}}, 1), wakeOf(1));
        wakeIs("ahead", windBehind(0, new int[][] {{0, 0}, {-1, 0}}, 1), 3.0);
        wakeIs("beside", windBehind(0, new int[][] {{0, 0}, {0, 1}}, 1), 3.0);
        wakeIs("of one that waits", windBehind(0, new int[][] {{0, 0}, {1, 0}}, 0), 3.0);
        wakeIs("3 apart", windBehind(0, new int[][] {{0, 0}, {3, 3}}, 1), wakeOf(3));
        wakeIs("4 apart", windBehind(0, new int[][] {{0, 0}, {3, -4}}, 1), 3.0);
        wakeIs("4 apart, further", windBehind(0, new int[][] {{0, 0}, {4, -4}}, 1), wakeOf(4));
        wakeIs("5 apart", windBehind(0, new int[][] {{0, 0}, {7, 5}}, 1), 3.0);
        wakeIs("5 apart, further", windBehind(0, new int[][] {{0, 0}, {8, 5}}, 1), wakeOf(8));
        wakeIs("far", windBehind(0, new int[][] {{-100, 0}, {100, 53}}, 1), wakeOf(200));
        wakeIs("too far across", windBehind(0, new int[][] {{-100, 0}, {100, 54}}, 1), 3.0);
        int[][] ways = {{1, 0}, {1, 1}, {0, 1}, {-1, 1}, {-1, 0}, {-1, -1}, {0, -1}, {1, -1}};
        for (int k = 0; k < 8; k++) {
            int p = 5 * (ways[k][0] * ways[k][0] + ways[k][1] * ways[k][1]);
            int[][] places = {{0, 0}, {5 * ways[k][0], 5 * ways[k][1]}};
            wakeIs("direction " + k, windBehind(k, places, 1), wakeOf(p));
        }
        wakeIs("of three", windBehind(0, new int[][] {{9, 0}, {2, 0}, {5, 0}, {10, 0}}, 3), wakeOf(8, 5, 1));
        wakeIs("of five, all wind gone",
            windBehind(0, new int[][] {{9, 0}, {9, 1}, {9, -1}, {9, 2}, {9, -2}, {10, 0}}, 5), wakeOf(1, 1, 1, 1, 1));
    }

    private static void runFailures() {
        WindPark x = new WindPark(2);
        fit(x, 1, 0, CUPS);
        x.read(1, 0, bits(9.0));
        due(34, "no drive", x.run(1), 1);
        int[] found = {1, 3, 1, 1};
        for (int what = 0; what < 4; what++) {
            due(37, "no drive, " + what, x.finding(0, what), found[what]);
        }
        due(34, "failed", x.of(1, 0), FAILED);
        due(34, "pitch stays", x.of(1, 1), bits(90.0));
        due(34, "a failed one", x.run(5), 0);
        due(34, "stays", x.of(1, 0), FAILED);

        WindPark y = new WindPark(1);
        y.part(0, 4);
        plans(y, st(0, TAKE, 0), st(0, HOLDING, 0, 1), st(1, FIT, 0, 3));
        y.act(0);
        fit(y, 0, 0, CUPS);
        y.read(0, 0, bits(9.0));
        y.forget();
        due(34, "a pitch with serial 0", y.run(3), 1);
        due(37, "slot", y.finding(0, 1), 3);
        due(37, "zero", y.finding(0, 2), 6);
        traceIs(34, "pitch", y, 33, 32, 15, 14);

        WindPark z = new WindPark(1);
        fit(z, 0, 1, CUPS);
        fit(z, 0, 3, DRIVE);
        z.read(0, 1, bits(12.0));
        int came = 0;
        int steps = 0;
        while (came == 0 && steps < 40) {
            came = z.run(1);
            steps++;
        }
        due(34, "no blade", came, 1);
        due(37, "slot", z.finding(0, 1), 4);
        due(37, "nothing", z.finding(0, 2), 1);
        due(37, "step", z.finding(0, 3), steps);
        due(34, "torque", z.of(0, 2), 0);
        due(34, "energy came ahead of it", z.of(0, 4) > 0 ? 1 : 0, 1);
        double turns = Double.longBitsToDouble(z.of(0, 3));
        long energy = z.of(0, 4);
        z.run(1);
        due(34, "turns are halved", z.of(0, 3), bits(turns * 0.5));
        due(34, "and that is all", z.of(0, 4), energy);
        for (int i = 0; i < 27; i++) {
            z.run(40);
        }
        double small = turns * 0.5;
        for (int i = 0; i < 27 * 40; i++) {
            small = small * 0.5;
        }
        due(34, "down to nothing", z.of(0, 3), bits(small));
        windIsWorn();
    }

    /** A negative wind wears below 0. */
    private static void windIsWorn() {
        WindPark x = new WindPark(1);
        equip(x, 0, 12.0);
        x.run(30);
        due(34, "makes", x.of(0, 0), MAKING);
        plans(x, st(0, HOLDING, 0, 1), st(1, STRIP, 0, 4));
        x.act(0);
        long wear = x.told(23, 2);
        plans(x, st(0, TAKE, 23), st(0, HOLDING, 0, 1), st(1, FIT, 0, 4));
        x.act(0);
        x.read(0, 0, bits(-700.9));
        x.run(1);
        due(34, "still makes", x.of(0, 0), MAKING);
        due(34, "wind", x.of(0, 7), bits(-700.9));
        plans(x, st(0, HOLDING, 0, 1), st(1, STRIP, 0, 4));
        x.act(0);
        due(34, "wear below 0", x.told(23, 2), wear - 700);
        due(34, "turns are not below 0", x.of(0, 3), 0);
    }

    private static void runFindingsKept() {
        WindPark x = new WindPark(6);
        for (int t = 0; t < 6; t++) {
            fit(x, t, 0, CUPS);
            x.read(t, 0, bits(9.0));
        }
        int came = 0;
        for (int i = 0; i < 8; i++) {
            came += x.run(1);
            for (int t = 0; t < 6; t++) {
                due(35, "reset", x.reset(t), 1);
            }
        }
        due(34, "all that came", came, 48);
        due(39, "kept", x.count(4), 40);
        due(37, "the 40th", x.finding(39, 0) * 10 + x.finding(39, 3), 37);
        due(37, "no 41st", x.finding(40, 0), NONE);
    }

    private static void reset() {
        WindPark x = new WindPark(2);
        due(35, "turbine", x.reset(2), UNKNOWN);
        due(35, "turbine -1", x.reset(-1), UNKNOWN);
        due(35, "not failed", x.reset(1), STATE);
        due(35, "why", x.why(), STATE);
        fit(x, 1, 0, CUPS);
        x.read(1, 0, bits(9.0));
        x.run(1);
        due(35, "failed", x.of(1, 0), FAILED);
        due(35, "reset", x.reset(1), 1);
        due(35, "waits", x.of(1, 0), WAITING);
        due(35, "again", x.reset(1), STATE);
    }

    private static void of() {
        WindPark x = new WindPark(2);
        long[] first = {0, bits(90.0), 0, 0, 0, bits(1000.0), 0, 0, NONE, NONE, NONE, NONE, NONE};
        for (int what = 0; what < 13; what++) {
            due(36, "at first, " + what, x.of(1, what), first[what]);
            due(36, "is not refused", x.why(), 0);
        }
        refused(36, "turbine", x, x.of(2, 13), UNKNOWN);
        refused(36, "turbine -1", x, x.of(-1, 0), UNKNOWN);
        refused(36, "13", x, x.of(0, 13), OUTSIDE);
        refused(36, "-1", x, x.of(0, -1), OUTSIDE);
        x.part(0, 0);
        x.part(0, 0);
        fit(x, 1, 2, 0);
        due(36, "serial", x.of(1, 10), 2);
    }

    private static void finding() {
        WindPark x = new WindPark(1);
        due(37, "none", x.finding(0, 0), NONE);
        due(37, "is not refused", x.why(), 0);
        due(37, "what 4", x.finding(0, 4), OUTSIDE);
        due(37, "what -1", x.finding(0, -1), OUTSIDE);
        due(37, "-1", x.finding(-1, 3), NONE);
        due(37, "most", x.finding(Integer.MAX_VALUE, 3), NONE);
    }

    private static void why() {
        WindPark x = new WindPark(1);
        x.row(24, 0, 0);
        due(38, "why", x.why(), UNKNOWN);
        due(38, "again", x.why(), UNKNOWN);
        x.count(0);
        due(38, "behind a call that was not refused", x.why(), 0);
        x.count(6);
        due(38, "outside", x.why(), OUTSIDE);
        x.traced(5);
        due(38, "traced", x.why(), 0);
        fit(x, 0, 0, CUPS);
        x.read(0, 0, bits(9.0));
        due(38, "a finding", x.run(1), 1);
        due(38, "is no failure of the call", x.why(), 0);
        plans(x, st(0, TRY, 1, 0, 2), st(1, FAIL, 1));
        x.act(0);
        due(38, "nor what was caught", x.why(), 0);
    }

    private static void count() {
        WindPark x = new WindPark(4);
        due(39, "turbines", x.count(0), 4);
        x.part(3, 0);
        x.part(3, 0);
        due(39, "parts", x.count(1), 2);
        x.row(23, 0, 0);
        due(39, "cases", x.count(2), 2);
        x.run(7);
        x.run(40);
        due(39, "steps", x.count(3), 47);
        x.ask(3, 0, 0);
        due(39, "bodies", x.count(5), 1);
        due(39, "6", x.count(6), OUTSIDE);
        due(39, "-1", x.count(-1), OUTSIDE);
    }
}
