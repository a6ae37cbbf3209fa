import java.util.Random;

/**
 * Random runs of calls, the same on a WindPark and on the Model: each answer, and why() behind each call, must be
 * alike. The seeds are fixed, so that every run of this test is the same.
 */
public final class ModelTest {
    private static final int OBJECTS = 4000;
    private static final int CALLS = 512;
    private static final String[] STORE = {"row", "grid", "cradle", "part", "set", "clear", "holds", "put", "put",
        "put", "get", "putAt", "getAt", "link", "lay", "lift", "copy", "copy", "length", "alike", "alike", "count"};
    private static final String[] PARTS = {"part", "ask", "ask", "ask", "told", "traced", "traced", "forget",
        "count", "set"};
    private static final String[] SECONDS = {"put", "put", "put", "put", "seconds", "seconds", "test", "test", "row"};
    private static final String[] ACTS = {"step", "step", "step", "step", "step", "step", "drop", "act", "act",
        "acted", "acted", "said", "said", "holds", "count", "of", "row", "part", "get", "clear", "set"};
    private static final String[] FARM = {"place", "read", "read", "read", "wind", "bound", "run", "run", "run",
        "reset", "reset", "of", "of", "of", "of", "of", "finding", "finding", "count", "traced", "forget"};
    private static final String[] FAULTS = {"run", "run", "reset", "reset", "reset", "reset", "finding", "count", "read"};
    private static final String[][] MODES = {STORE, PARTS, SECONDS, ACTS, FARM, FAULTS};

    private final Random random;
    private final int turbines;
    private final WindPark park;
    private final Model model;
    private final StringBuilder told = new StringBuilder();
    private int calls;
    private int wrong;

    private ModelTest(long seed) {
        random = new Random(seed);
        turbines = random.nextInt(10) == 0 ? random.nextInt(20) - 8 : 1 + random.nextInt(6);
        park = new WindPark(turbines);
        model = new Model(turbines);
    }

    public static void main(String[] args) {
        int wrong = 0;
        for (int seed = 0; seed < OBJECTS && wrong < 5; seed++) {
            wrong += new ModelTest(seed).runAll(seed);
        }
        System.out.println(wrong == 0 ? OBJECTS + " random objects are as the model" : wrong + " are not");
        if (wrong != 0) {
            System.exit(1);
        }
    }

    private int runAll(int seed) {
        if (seed % 2 == 0) {
            furnish();
        }
        int mode = random.nextInt(MODES.length + 1);
        while (calls < CALLS && wrong == 0) {
            String[] names = MODES[mode < MODES.length && random.nextInt(8) != 0 ? mode : random.nextInt(MODES.length)];
            String name = names[random.nextInt(names.length)];
            call(name, argumentsOf(name));
        }
        if (wrong != 0) {
            System.out.println("seed " + seed + ", " + turbines + " turbines" + told);
        }
        return wrong;
    }

    /** Turbines that can work: parts fitted by acts, winds that turn them. */
    private void furnish() {
        int n = model.turbines.length;
        int bare = random.nextInt(12);
        int first = random.nextInt(5);
        for (int t = 0; t < n; t++) {
            call("place", t, random.nextInt(41) - 20, random.nextInt(21) - 10);
            for (int k = 0; k < 5; k++) {
                int slot = (first + k) % 5;
                if (random.nextInt(12) == bare) {
                    continue;
                }
                int kind = slot < 3 ? random.nextInt(3) : slot == 3 ? 3 + random.nextInt(2) : 5 + random.nextInt(2);
                call("part", 0, kind);
                call("drop", 0);
                call("drop", 1);
                call("step", 0, 0, 0, 0, 0);
                call("step", 0, 10, t, 1, 0);
                call("step", 1, 12, t, slot, 0);
                call("act", 0);
                if (slot < 3) {
                    call("read", t, slot, Double.doubleToLongBits(random.nextDouble() * 25));
                }
            }
        }
        if (random.nextInt(3) == 0) {
            call("clear", 0);
        }
    }

    private void call(String name, long... a) {
        long due = model.call(name, a);
        long got = ParkCalls.call(park, name, a);
        long dueWhy = model.call("why", new long[0]);
        long gotWhy = park.why();
        told.append("\n  ").append(name).append(java.util.Arrays.toString(a)).append(" = ").append(got);
        calls++;
        if (due != got || dueWhy != gotWhy) {
            wrong = 1;
            told.append(" why ").append(gotWhy).append(", due is ").append(due).append(" why ").append(dueWhy);
        }
    }

    private long[] argumentsOf(String name) {
        int edge = random.nextInt(25);
        switch (name) {
            case "row": return of(aCase(), lane(), edge == 0 ? number() : random.nextInt(7));
            case "grid": return of(aCase(), edge == 0 ? number() : random.nextInt(4),
                edge == 1 ? number() : random.nextInt(5) - 1);
            case "cradle": return of(aCase(), kind(), edge == 0 ? number() : random.nextInt(5));
            case "part": return of(aCase(), kind());
            case "set": case "alike": return of(aCase(), aCase());
            case "clear": case "holds": return of(aCase());
            case "put": return put();
            case "get": return fitting(item());
            case "putAt": return of(aCaseWith(8), item(), item(), number());
            case "getAt": return of(aCaseWith(8), item(), item());
            case "link": return of(aCaseWith(8), item(), aCaseWith(3));
            case "lay": return of(aCaseWith(9), item(), aCaseWith(10));
            case "lift": return of(aCaseWith(9), item(), kind(), aCase());
            case "copy": return copy();
            case "length": return fitting();
            case "ask": return of(aCaseWith(10), random.nextInt(edge == 0 ? 5 : 3), edge == 1 ? number() : load());
            case "told": return of(aCaseWith(10), random.nextInt(edge == 0 ? 6 : 3) - (edge == 1 ? 1 : 0));
            case "traced": case "said": return of(edge == 0 ? number() : random.nextInt(12));
            case "seconds": return measuring(random.nextInt(6) + (edge == 0 ? number() : 0));
            case "test": return measuring(item(), item(), random.nextInt(12) + (edge == 0 ? number() : 0));
            case "step": return step();
            case "drop": case "act": return of(plan());
            case "acted": return of(random.nextInt(7) - (edge == 0 ? 1 : 0));
            case "place": return of(turbine(), edge == 0 ? number() : random.nextInt(31) - 15,
                edge == 1 ? number() : random.nextInt(15) - 7);
            case "read": return of(turbine(), random.nextInt(edge == 0 ? 5 : 3) - (edge == 1 ? 1 : 0), reading());
            case "wind": return of(random.nextInt(8) + (edge == 0 ? number() : 0), random.nextInt(2));
            case "bound": return of(turbine(), boundBits());
            case "run": return of(edge == 0 ? number() : 1 + random.nextInt(random.nextBoolean() ? 4 : 40));
            case "reset": return of(turbine());
            case "of": return of(turbine(), random.nextInt(13) + (edge == 0 ? number() : 0));
            case "finding": return of(random.nextInt(edge < 3 ? 50 : 4), random.nextInt(edge == 4 ? 6 : 4));
            case "count": return of(random.nextInt(6) + (edge == 0 ? number() : 0));
            default: return of();
        }
    }

    private static long[] of(long... a) {
        return a;
    }

    private int number() {
        int[] edges = {-2, -1, 0, 1, 8, 9, 12, 13, 30, 31, 40, 41, 100, 101, -100, -101, 10000, 10001,
            Integer.MAX_VALUE, Integer.MIN_VALUE, Integer.MIN_VALUE + 1};
        return random.nextInt(4) == 0 ? random.nextInt() : edges[random.nextInt(edges.length)];
    }

    private int aCase() {
        int which = random.nextInt(40);
        return which == 0 ? number() : which == 1 ? 24 : which < 30 ? random.nextInt(8) : random.nextInt(24);
    }

    private int aCaseWith(int sort) {
        if (random.nextInt(8) == 0) {
            return aCase();
        }
        int from = random.nextInt(24);
        for (int i = 0; i < 24; i++) {
            int c = (from + i) % 24;
            if (Model.sortOf(model.cases[c]) == sort) {
                return c;
            }
        }
        return aCase();
    }

    private int lane() {
        return random.nextInt(30) == 0 ? number() : random.nextInt(8);
    }

    private int kind() {
        return random.nextInt(30) == 0 ? number() : random.nextInt(8);
    }

    private int item() {
        return random.nextInt(20) == 0 ? number() : random.nextInt(4);
    }

    private int load() {
        return random.nextInt(3) == 0 ? random.nextInt(10001) : random.nextInt(60);
    }

    private int plan() {
        return random.nextInt(30) == 0 ? number() : random.nextInt(10) < 8 ? random.nextInt(4) : random.nextInt(11);
    }

    private int turbine() {
        return random.nextInt(30) == 0 ? number() : random.nextInt(model.turbines.length);
    }

    /** A case and, mostly, what it holds, then the rest. */
    private long[] fitting(long... rest) {
        int c = aCase();
        int sort = c >= 0 && c < 24 ? Model.sortOf(model.cases[c]) : 0;
        return joined(c, sort < 0 || random.nextInt(8) == 0 ? random.nextInt(12) - 1 : sort, rest);
    }

    private long[] measuring(long... rest) {
        int lane = 5 + random.nextInt(2);
        return joined(aCaseWith(lane), random.nextInt(20) == 0 ? lane() : lane, rest);
    }

    private static long[] joined(long first, long second, long[] rest) {
        long[] all = new long[rest.length + 2];
        all[0] = first;
        all[1] = second;
        System.arraycopy(rest, 0, all, 2, rest.length);
        return all;
    }

    private long[] put() {
        int c = aCase();
        int sort = c >= 0 && c < 24 ? Model.sortOf(model.cases[c]) : 0;
        int lane = sort < 0 || random.nextInt(8) == 0 ? lane() : sort;
        return of(c, lane, item(), lane == 5 ? Float.floatToRawIntBits((float) aDouble()) : Double.doubleToRawLongBits(aDouble()));
    }

    private long[] copy() {
        int c = aCase();
        int sort = c >= 0 && c < 24 ? Model.sortOf(model.cases[c]) : 0;
        int d = random.nextInt(4) == 0 ? aCase() : random.nextInt(4) == 0 ? c : aCaseWith(sort);
        if (sort >= 8 && random.nextInt(3) == 0) {
            d = aCaseWith(17 - sort);
        }
        return of(c, item(), d, item(), item());
    }

    private double aDouble() {
        switch (random.nextInt(14)) {
            case 0: return Double.longBitsToDouble(random.nextLong());
            case 1: return Float.intBitsToFloat(random.nextInt());
            case 2: return Double.NaN;
            case 3: return Double.longBitsToDouble(0x7FF0000000000000L | random.nextLong());
            case 4: return Double.POSITIVE_INFINITY;
            case 5: return Double.NEGATIVE_INFINITY;
            case 6: return 0.0;
            case 7: return -0.0;
            case 8: return Double.MIN_VALUE * (random.nextInt(9) - 4);
            case 9: return Float.MIN_VALUE * (random.nextInt(9) - 4);
            case 10: return Double.MAX_VALUE * (random.nextBoolean() ? 1 : -1);
            case 11: return random.nextLong();
            default: return random.nextInt(7) - 3;
        }
    }

    private long reading() {
        int which = random.nextInt(20);
        if (which == 0) {
            return Double.doubleToRawLongBits(aDouble());
        }
        double[] edges = {Double.NaN, -0.0, 0.0, 1000.0, -1000.0, Math.nextUp(1000.0), 4.0, 7.0, 12.0, 25.0};
        double d = which < 6 ? edges[random.nextInt(edges.length)] : random.nextDouble() * 30 - 2;
        return Double.doubleToLongBits(d);
    }

    private long boundBits() {
        int which = random.nextInt(6);
        return Double.doubleToRawLongBits(which == 0 ? aDouble() : which == 1 ? -0.0 : random.nextDouble() * 40);
    }

    private long[] step() {
        int op = random.nextInt(14);
        if (random.nextInt(30) == 0) {
            return of(plan(), random.nextInt(40) == 0 ? number() : op, number(), number(), number());
        }
        switch (op) {
            case 0: case 1: return of(plan(), op, random.nextInt(6) == 0 ? 23 : aCase(), 0, 0);
            case 2: return of(plan(), op, aCaseWith(3), item(), number());
            case 6: return of(plan(), op, 1 + random.nextInt(8), 0, 0);
            case 7: return of(plan(), op, plan(), 0, 0);
            case 8: return of(plan(), op, plan(), random.nextInt(10) == 0 ? number() : random.nextInt(9), plan());
            case 9: return of(plan(), op, plan(), plan(), 0);
            case 10: return of(plan(), op, turbine(), plan(), 0);
            case 11: return of(plan(), op, turbine(), 0, 0);
            case 12: case 13: return of(plan(), op, turbine(), random.nextInt(15) == 0 ? number() : random.nextInt(5), 0);
            default: return of(plan(), op, random.nextInt(100), 0, 0);
        }
    }
}
