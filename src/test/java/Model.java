import java.util.ArrayList;
import java.util.Arrays;
import java.util.List;

/**
 * The document told once more, by the machine's own means: real arrays, casts, classes and exceptions, the
 * library's doubles. WindPark may use none of these, so that the two share no code and hardly a thought.
 */
final class Model {
    static final class Failure extends RuntimeException {
        private static final long serialVersionUID = 1L;
        final int number;

        Failure(int number) {
            super(null, null, false, false);
            this.number = number;
        }
    }

    static final class Answer extends RuntimeException {
        private static final long serialVersionUID = 1L;
        final int value;

        Answer(int value) {
            super(null, null, false, false);
            this.value = value;
        }
    }

    static final class Refusal extends RuntimeException {
        private static final long serialVersionUID = 1L;
        final int code;

        Refusal(int code) {
            super(null, null, false, false);
            this.code = code;
        }
    }

    interface Sensor {
    }

    abstract static class Part {
        final Model model;
        final int kind;
        final int serial;
        long wear;

        Part(Model model, int kind, int serial) {
            this.model = model;
            this.kind = kind;
            this.serial = serial;
        }

        void begin(int body) {
            if (model.trace.size() < 60) {
                model.trace.add(body);
            }
        }

        abstract int limit();

        int cost() {
            begin(21);
            return 10 * limit();
        }

        long wearsBody(int load) {
            begin(31);
            return load;
        }

        final long wears(int load) {
            long told = wearsBody(load);
            wear += told;
            return told;
        }
    }

    static class Cups extends Part implements Sensor {
        Cups(Model m, int k, int s) {
            super(m, k, s);
        }

        int limit() {
            begin(11);
            return 40;
        }
    }

    static class Vane extends Part implements Sensor {
        Vane(Model m, int k, int s) {
            super(m, k, s);
        }

        int limit() {
            begin(12);
            return 30;
        }
    }

    static class Sonic extends Vane {
        Sonic(Model m, int k, int s) {
            super(m, k, s);
        }

        int limit() {
            begin(13);
            return super.limit() + 20;
        }
    }

    static class Drive extends Part {
        Drive(Model m, int k, int s) {
            super(m, k, s);
        }

        int limit() {
            begin(14);
            return 50;
        }

        long wearsBody(int load) {
            begin(32);
            return load * load / limit();
        }
    }

    static class Pitch extends Drive {
        Pitch(Model m, int k, int s) {
            super(m, k, s);
        }

        int limit() {
            begin(15);
            return 2 * super.limit();
        }

        long wearsBody(int load) {
            begin(33);
            return super.wearsBody(load) + load / serial;
        }
    }

    static class Blade extends Part {
        Blade(Model m, int k, int s) {
            super(m, k, s);
        }

        int limit() {
            begin(16);
            return 60;
        }
    }

    static class Heavy extends Blade {
        Heavy(Model m, int k, int s) {
            super(m, k, s);
        }

        int limit() {
            begin(17);
            return super.limit() + serial % 10;
        }

        int cost() {
            begin(22);
            return 15 * limit();
        }
    }

    static final Class<?>[] KINDS = {Cups.class, Vane.class, Sonic.class, Drive.class, Pitch.class, Blade.class,
        Heavy.class, Sensor.class};
    static final Class<?>[] LANES = {byte[].class, short[].class, char[].class, int[].class, long[].class,
        float[].class, double[].class, boolean[].class};
    static final int[][] WAYS = {{1, 0}, {1, 1}, {0, 1}, {-1, 1}, {-1, 0}, {-1, -1}, {0, -1}, {1, -1}};

    static final class Turbine {
        int x;
        int y;
        Part[] slots = new Part[5];
        double[] readings = {Double.NaN, Double.NaN, Double.NaN};
        List<long[]> history = new ArrayList<>();
        double pitch = 90.0;
        double torque;
        double turns;
        double energy;
        double bound = 1000.0;
        double vote;
        double wind;
        int state;
        int held;
    }

    final Object[] cases = new Object[24];
    final List<Integer> trace = new ArrayList<>();
    final List<List<int[]>> plans = new ArrayList<>();
    final Turbine[] turbines;
    final List<int[]> findings = new ArrayList<>();
    int direction;
    boolean cold;
    int steps;
    int parts;
    int why;

    List<Object[]> hand = new ArrayList<>();
    List<Integer> log = new ArrayList<>();
    List<Object[]> written = new ArrayList<>();
    int last;
    int begun;
    int deepest;
    int cause;
    int answered;
    int wentBack;

    Model(int n) {
        turbines = new Turbine[n < 1 ? 1 : n > 6 ? 6 : n];
        for (int t = 0; t < turbines.length; t++) {
            turbines[t] = new Turbine();
        }
        for (int p = 0; p < 10; p++) {
            plans.add(new ArrayList<>());
        }
    }

    static void unknown(boolean is) {
        if (is) {
            throw new Refusal(-2);
        }
    }

    static void outside(boolean is) {
        if (is) {
            throw new Refusal(-3);
        }
    }

    static boolean not(int v, int low, int high) {
        return v < low || v > high;
    }

    /** The calls that answer 0 where they are refused. */
    static final List<String> ZERO_ANSWERS = Arrays.asList("get", "getAt", "ask", "told", "seconds", "of");

    long call(String name, long[] a) {
        if (name.equals("why")) {
            return why;
        }
        why = 0;
        try {
            long answer = answer(name, a);
            return answer;
        } catch (Refusal e) {
            why = e.code;
        } catch (Failure e) {
            why = -10 - e.number;
        } catch (NullPointerException e) {
            why = -11;
        } catch (IndexOutOfBoundsException e) {
            why = -12;
        } catch (NegativeArraySizeException e) {
            why = -13;
        } catch (ClassCastException e) {
            why = -14;
        } catch (ArrayStoreException e) {
            why = -15;
        } catch (ArithmeticException e) {
            why = -16;
        }
        return ZERO_ANSWERS.contains(name) ? 0 : why;
    }

    private long answer(String name, long[] a) {
        int p = a.length > 0 ? (int) a[0] : 0;
        int q = a.length > 1 ? (int) a[1] : 0;
        int r = a.length > 2 ? (int) a[2] : 0;
        int s = a.length > 3 ? (int) a[3] : 0;
        int t = a.length > 4 ? (int) a[4] : 0;
        switch (name) {
            case "row": return row(p, q, r);
            case "grid": return grid(p, q, r);
            case "cradle": return cradle(p, q, r);
            case "part": return part(p, q);
            case "set": return set(p, q);
            case "clear": return clear(p);
            case "holds": return holds(p);
            case "put": return put(p, q, r, a[3]);
            case "get": return get(p, q, r);
            case "putAt": return putAt(p, q, r, s);
            case "getAt": return getAt(p, q, r);
            case "link": return link(p, q, r);
            case "lay": return lay(p, q, r);
            case "lift": return lift(p, q, r, s);
            case "copy": return copy(p, q, r, s, t);
            case "length": return length(p, q);
            case "alike": return alike(p, q);
            case "ask": return ask(p, q, r);
            case "told": return told(p, q);
            case "traced": return p >= 0 && p < trace.size() ? trace.get(p) : -1;
            case "forget": return forget();
            case "seconds": return seconds(p, q, r);
            case "test": return test(p, q, r, s, t);
            case "step": return step(p, q, r, s, t);
            case "drop": return drop(p);
            case "act": return act(p);
            case "acted": return acted(p);
            case "said": return p >= 0 && p < Math.min(60, log.size()) ? log.get(p) : 0;
            case "place": return place(p, q, r);
            case "read": return read(p, q, a[2]);
            case "wind": return wind(p, q != 0);
            case "bound": return bound(p, a[1]);
            case "run": return run(p);
            case "reset": return reset(p);
            case "of": return of(p, q);
            case "finding": return finding(p, q);
            case "count": return count(p);
            default: throw new IllegalStateException(name);
        }
    }

    static void knownCase(int c) {
        unknown(not(c, 0, 23));
    }

    int row(int c, int lane, int n) {
        knownCase(c);
        outside(not(lane, 0, 7) || n > 30);
        cases[c] = java.lang.reflect.Array.newInstance(LANES[lane].getComponentType(), n);
        return n;
    }

    int grid(int c, int n, int m) {
        knownCase(c);
        outside(n > 8 || m > 12);
        cases[c] = m == -1 ? new int[n][] : new int[n][m];
        return n;
    }

    int cradle(int c, int kind, int n) {
        knownCase(c);
        outside(not(kind, 0, 7) || n > 8);
        cases[c] = java.lang.reflect.Array.newInstance(KINDS[kind], n);
        return n;
    }

    int part(int c, int kind) {
        knownCase(c);
        outside(not(kind, 0, 6));
        if (parts >= 60) {
            throw new Refusal(-5);
        }
        int n = parts++;
        Part part;
        switch (kind) {
            case 0: part = new Cups(this, kind, n); break;
            case 1: part = new Vane(this, kind, n); break;
            case 2: part = new Sonic(this, kind, n); break;
            case 3: part = new Drive(this, kind, n); break;
            case 4: part = new Pitch(this, kind, n); break;
            case 5: part = new Blade(this, kind, n); break;
            default: part = new Heavy(this, kind, n);
        }
        cases[c] = part;
        return n;
    }

    int set(int c, int d) {
        knownCase(c);
        knownCase(d);
        boolean was = cases[c] == cases[d];
        cases[d] = cases[c];
        return was ? 0 : 1;
    }

    int clear(int c) {
        knownCase(c);
        boolean was = cases[c] == null;
        cases[c] = null;
        return was ? 0 : 1;
    }

    static boolean isCradle(Object o) {
        return o instanceof Part[] || o instanceof Sensor[];
    }

    int holds(int c) {
        knownCase(c);
        return sortOf(cases[c]);
    }

    static int sortOf(Object o) {
        if (o == null) {
            return -1;
        }
        for (int lane = 0; lane < 8; lane++) {
            if (LANES[lane].isInstance(o)) {
                return lane;
            }
        }
        return o instanceof int[][] ? 8 : isCradle(o) ? 9 : 10;
    }

    int put(int c, int lane, int i, long bits) {
        knownCase(c);
        outside(not(lane, 0, 7));
        Object o = cases[c];
        switch (lane) {
            case 0: ((byte[]) o)[i] = (byte) bits; break;
            case 1: ((short[]) o)[i] = (short) bits; break;
            case 2: ((char[]) o)[i] = (char) bits; break;
            case 3: ((int[]) o)[i] = (int) bits; break;
            case 4: ((long[]) o)[i] = bits; break;
            case 5: ((float[]) o)[i] = Float.intBitsToFloat((int) bits); break;
            case 6: ((double[]) o)[i] = Double.longBitsToDouble(bits); break;
            default: ((boolean[]) o)[i] = (bits & 1) == 1;
        }
        return 1;
    }

    long get(int c, int lane, int i) {
        knownCase(c);
        outside(not(lane, 0, 7));
        Object o = cases[c];
        switch (lane) {
            case 0: return ((byte[]) o)[i];
            case 1: return ((short[]) o)[i];
            case 2: return ((char[]) o)[i];
            case 3: return ((int[]) o)[i];
            case 4: return ((long[]) o)[i];
            case 5: return Float.floatToIntBits(((float[]) o)[i]);
            case 6: return Double.doubleToLongBits(((double[]) o)[i]);
            default: return ((boolean[]) o)[i] ? 1 : 0;
        }
    }

    int putAt(int c, int i, int j, int v) {
        knownCase(c);
        ((int[][]) cases[c])[i][j] = v;
        return 1;
    }

    int getAt(int c, int i, int j) {
        knownCase(c);
        return ((int[][]) cases[c])[i][j];
    }

    int link(int c, int i, int d) {
        knownCase(c);
        knownCase(d);
        int[][] grid = (int[][]) cases[c];
        int[] row = (int[]) cases[d];
        grid[i] = row;
        return 1;
    }

    Object[] cradleIn(int c) {
        if (cases[c] != null && !isCradle(cases[c])) {
            throw new ClassCastException();
        }
        return (Object[]) cases[c];
    }

    int lay(int c, int i, int d) {
        knownCase(c);
        knownCase(d);
        Object[] cradle = cradleIn(c);
        Part part = (Part) cases[d];
        cradle[i] = part;
        return 1;
    }

    int lift(int c, int i, int kind, int d) {
        knownCase(c);
        knownCase(d);
        outside(not(kind, 0, 7));
        Object part = cradleIn(c)[i];
        cases[d] = KINDS[kind].cast(part);
        return 1;
    }

    int copy(int c, int i, int d, int j, int n) {
        knownCase(c);
        knownCase(d);
        System.arraycopy(cases[c], i, cases[d], j, n);
        return n;
    }

    int length(int c, int as) {
        knownCase(c);
        outside(not(as, 0, 9));
        Object o = cases[c];
        if (o != null && sortOf(o) != as) {
            throw new ClassCastException();
        }
        if (o == null) {
            throw new NullPointerException();
        }
        return java.lang.reflect.Array.getLength(o);
    }

    int alike(int c, int d) {
        knownCase(c);
        knownCase(d);
        Object o = cases[c];
        Object q = cases[d];
        if (o == q) {
            return 1;
        }
        if (o == null || q == null || o.getClass() != q.getClass() || o instanceof Part) {
            return 0;
        }
        return Arrays.deepEquals(new Object[] {o}, new Object[] {q}) ? 2 : 0;
    }

    long ask(int c, int member, int load) {
        knownCase(c);
        outside(not(member, 0, 2) || not(load, 0, 10000));
        Part part = (Part) cases[c];
        return member == 0 ? part.limit() : member == 1 ? part.cost() : part.wears(load);
    }

    long told(int c, int what) {
        knownCase(c);
        outside(not(what, 0, 2));
        Part part = (Part) cases[c];
        return what == 0 ? part.kind : what == 1 ? part.serial : part.wear;
    }

    int forget() {
        int n = trace.size();
        trace.clear();
        return n;
    }

    double[] doubles(int c, int lane) {
        if (lane == 6) {
            return (double[]) cases[c];
        }
        float[] f = (float[]) cases[c];
        double[] all = new double[f.length];
        for (int i = 0; i < f.length; i++) {
            all[i] = f[i];
        }
        return all;
    }

    long seconds(int c, int lane, int what) {
        knownCase(c);
        outside(not(lane, 5, 6) || not(what, 0, 5));
        double[] all = Arrays.stream(doubles(c, lane)).filter(d -> !Double.isNaN(d)).toArray();
        int n = all.length;
        double sum = 0.0;
        for (double d : all) {
            sum += d;
        }
        double[] sorted = all.clone();
        Arrays.sort(sorted);
        switch (what) {
            case 0: return Double.doubleToLongBits(n == 0 ? Double.NaN : sorted[n - 1]);
            case 1: return Double.doubleToLongBits(n == 0 ? Double.NaN : sorted[0]);
            case 2: return Double.doubleToLongBits(sum / n);
            case 3: return Double.doubleToLongBits(n == 0 ? Double.NaN : sorted[(n - 1) / 2]);
            case 4: return (long) sum / (long) n;
            default: return n;
        }
    }

    int test(int c, int lane, int i, int j, int t) {
        knownCase(c);
        outside(not(lane, 5, 6) || not(t, 0, 11));
        double[] all = doubles(c, lane);
        double x = all[i];
        double y = all[j];
        boolean is;
        switch (t % 6) {
            case 0: is = x < y; break;
            case 1: is = x <= y; break;
            case 2: is = x > y; break;
            case 3: is = x >= y; break;
            case 4: is = x == y; break;
            default: is = x != y;
        }
        return (t < 6) == is ? 1 : 0;
    }

    boolean noTurbine(int t) {
        return not(t, 0, turbines.length - 1);
    }

    static boolean noPlan(int p) {
        return not(p, 0, 9);
    }

    int step(int plan, int op, int a, int b, int c) {
        unknown(noPlan(plan));
        outside(not(op, 0, 13));
        unknown(op <= 2 && not(a, 0, 23));
        unknown(op >= 10 && noTurbine(a));
        unknown(op >= 12 && not(b, 0, 4));
        unknown((op == 7 || op == 8 || op == 9) && noPlan(a));
        unknown((op == 9 || op == 10) && noPlan(b));
        unknown(op == 8 && noPlan(c));
        outside(op == 6 && not(a, 1, 8));
        outside(op == 8 && not(b, 0, 8));
        List<int[]> list = plans.get(plan);
        if (list.size() >= 16) {
            throw new Refusal(-5);
        }
        list.add(new int[] {op, a, b, c});
        return list.size();
    }

    int drop(int plan) {
        unknown(noPlan(plan));
        int n = plans.get(plan).size();
        plans.get(plan).clear();
        return n;
    }

    int act(int plan) {
        unknown(noPlan(plan));
        hand.clear();
        log.clear();
        written.clear();
        last = begun = deepest = cause = answered = wentBack = 0;
        Object[] casesBefore = cases.clone();
        Part[][] slotsBefore = new Part[turbines.length][];
        for (int t = 0; t < turbines.length; t++) {
            slotsBefore[t] = turbines[t].slots.clone();
        }
        int outcome = 0;
        try {
            perform(plan, 1);
        } catch (Answer e) {
            answered = e.value;
            outcome = 1;
        } catch (Failure e) {
            System.arraycopy(casesBefore, 0, cases, 0, 24);
            for (int t = 0; t < turbines.length; t++) {
                turbines[t].slots = slotsBefore[t];
            }
            for (int i = written.size() - 1; i >= 0; i--) {
                Object[] w = written.get(i);
                ((int[]) w[0])[(Integer) w[1]] = (Integer) w[2];
            }
            throw e;
        }
        for (int i = hand.size() - 1; i >= 0; i--) {
            Object[] entry = hand.get(i);
            int c = (Integer) entry[1];
            if (cases[c] != null) {
                c = Arrays.asList(cases).indexOf(null);
            }
            if (c >= 0) {
                cases[c] = entry[0];
                wentBack++;
            }
        }
        return outcome;
    }

    void perform(int plan, int depth) {
        if (depth == 9) {
            throw new Failure(8);
        }
        deepest = Math.max(deepest, depth);
        for (int[] step : plans.get(plan)) {
            if (begun == 100) {
                throw new Failure(9);
            }
            begun++;
            try {
                performStep(step[0], step[1], step[2], step[3], depth);
            } catch (NullPointerException e) {
                throw new Failure(1);
            } catch (IndexOutOfBoundsException e) {
                throw new Failure(2);
            } catch (ClassCastException e) {
                throw new Failure(4);
            }
        }
    }

    Object handTop() {
        if (hand.isEmpty()) {
            throw new Failure(1);
        }
        return hand.get(hand.size() - 1)[0];
    }

    void performStep(int op, int a, int b, int c, int depth) {
        switch (op) {
            case 0:
                if (cases[a] == null) {
                    throw new Failure(1);
                }
                hand.add(new Object[] {cases[a], a});
                cases[a] = null;
                break;
            case 1:
                Object top = handTop();
                if (cases[a] != null) {
                    throw new Failure(5);
                }
                cases[a] = top;
                hand.remove(hand.size() - 1);
                break;
            case 2:
                int[] row = (int[]) cases[a];
                int old = row[b];
                written.add(new Object[] {row, b, old});
                row[b] = c;
                break;
            case 3: log.add(a); break;
            case 4: throw new Answer(a);
            case 5: log.add(last); break;
            case 6: throw new Failure(a);
            case 7:
                try {
                    perform(a, depth + 1);
                } catch (Answer e) {
                    last = e.value;
                }
                break;
            case 8:
                try {
                    perform(a, depth + 1);
                } catch (Failure e) {
                    if (e.number == 9 || b != 0 && e.number != b) {
                        throw e;
                    }
                    perform(c, depth + 1);
                }
                break;
            case 9: performFinally(a, b, depth); break;
            case 10:
                turbines[a].held++;
                try {
                    perform(b, depth + 1);
                } finally {
                    turbines[a].held--;
                }
                break;
            case 11:
                if (turbines[a].held == 0) {
                    throw new Failure(7);
                }
                log.add(turbines[a].held);
                break;
            default: performOnSlot(op, turbines[a], b);
        }
    }

    void performFinally(int a, int b, int depth) {
        RuntimeException first = null;
        try {
            perform(a, depth + 1);
        } catch (Answer e) {
            first = e;
        } catch (Failure e) {
            if (e.number == 9) {
                throw e;
            }
            first = e;
        }
        boolean ended = false;
        try {
            perform(b, depth + 1);
            ended = true;
        } finally {
            if (!ended && first instanceof Failure) {
                cause = ((Failure) first).number;
            }
        }
        if (first != null) {
            throw first;
        }
    }

    void performOnSlot(int op, Turbine turbine, int slot) {
        if (slot > 2 && turbine.held == 0) {
            throw new Failure(7);
        }
        Part was = turbine.slots[slot];
        if (op == 12) {
            Object top = handTop();
            KINDS[slot < 3 ? 7 : slot == 3 ? 3 : 5].cast(top);
            turbine.slots[slot] = (Part) top;
            hand.remove(hand.size() - 1);
        } else {
            if (was == null) {
                throw new Failure(1);
            }
            turbine.slots[slot] = null;
        }
        if (was != null) {
            hand.add(new Object[] {was, 23});
        }
    }

    int acted(int what) {
        outside(not(what, 0, 5));
        return new int[] {answered, begun, deepest, log.size(), cause, wentBack}[what];
    }

    int place(int t, int x, int y) {
        unknown(noTurbine(t));
        outside(not(x, -100, 100) || not(y, -100, 100));
        turbines[t].x = x;
        turbines[t].y = y;
        return 1;
    }

    int read(int t, int sensor, long bits) {
        unknown(noTurbine(t) || not(sensor, 0, 2));
        double d = Double.longBitsToDouble(bits);
        outside(d < -1000.0 || d > 1000.0);
        turbines[t].readings[sensor] = d;
        return 1;
    }

    int wind(int way, boolean isCold) {
        outside(not(way, 0, 7));
        direction = way;
        cold = isCold;
        return 1;
    }

    int bound(int t, long bits) {
        unknown(noTurbine(t));
        double d = Double.longBitsToDouble(bits);
        outside(!(d >= 0.0));
        turbines[t].bound = d;
        return 1;
    }

    int line(int t) {
        return turbines[t].x * WAYS[direction][0] + turbines[t].y * WAYS[direction][1];
    }

    int cross(int t) {
        return turbines[t].x * WAYS[direction][1] - turbines[t].y * WAYS[direction][0];
    }

    int run(int n) {
        outside(not(n, 1, 40));
        int came = 0;
        for (int i = 0; i < n; i++) {
            List<Integer> order = new ArrayList<>();
            for (int t = 0; t < turbines.length; t++) {
                order.add(t);
            }
            order.sort((s, t) -> line(s) != line(t) ? Integer.compare(line(s), line(t)) : Integer.compare(s, t));
            for (int k = 0; k < order.size(); k++) {
                came += stepOf(order.get(k), order.subList(0, k));
            }
            for (Turbine turbine : turbines) {
                long[] now = new long[3];
                for (int s = 0; s < 3; s++) {
                    now[s] = Double.doubleToLongBits(turbine.readings[s]);
                }
                turbine.history.add(now);
            }
            steps++;
        }
        return came;
    }

    double voteOf(Turbine turbine) {
        List<Double> votes = new ArrayList<>();
        for (int s = 0; s < 3; s++) {
            double d = turbine.readings[s];
            if (turbine.slots[s] == null || Double.isNaN(d)) {
                continue;
            }
            boolean moved = true;
            int n = turbine.history.size();
            if (cold && n >= 2) {
                long bits = Double.doubleToLongBits(d);
                moved = turbine.history.get(n - 1)[s] != bits || turbine.history.get(n - 2)[s] != bits;
            }
            if (moved) {
                votes.add(d);
            }
        }
        votes.sort(null);
        return votes.isEmpty() ? Double.NaN : votes.get(votes.size() == 3 ? 1 : 0);
    }

    double windOf(int number, List<Integer> ahead) {
        double sum = 0.0;
        for (int other : ahead) {
            int p = line(number) - line(other);
            if (turbines[other].state == 2 && p > 0 && Math.abs(cross(number) - cross(other)) <= 3 + p / 4) {
                double e = 1.0 + p * 0.1;
                double d = 0.6 / (e * e);
                sum = sum + d * d;
            }
        }
        double wake = Math.min(1.0, Math.sqrt(sum));
        return turbines[number].vote * (1.0 - wake);
    }

    int stepOf(int number, List<Integer> ahead) {
        Turbine t = turbines[number];
        if (t.state == 4) {
            t.turns = t.turns * 0.5;
            return 0;
        }
        t.vote = voteOf(t);
        boolean blind = Double.isNaN(t.vote);
        t.wind = blind ? 0.0 : windOf(number, ahead);
        if ((t.state == 1 || t.state == 2) && (blind || t.turns > 16.0)) {
            t.state = 3;
        } else if (t.state == 0) {
            t.state = !blind && t.wind >= 4.0 && t.bound > 0.0 ? 1 : 0;
        } else if (t.state == 1 && t.turns >= 6.0) {
            t.state = 2;
        } else if (t.state == 3 && t.turns < 0.5) {
            t.state = 0;
        }
        int slot = 3;
        int failure;
        try {
            double goal = t.state == 1 ? 20.0 : t.state != 2 ? 90.0
                : t.turns <= 10.0 ? 0.0 : Math.min(90.0, (t.turns - 10.0) * 8.0);
            double rate = t.state == 3 ? 12.0 : 6.0;
            double by = Math.max(-rate, Math.min(rate, goal - t.pitch));
            if (by != 0.0) {
                t.slots[3].wears((int) Math.abs(by));
                t.pitch = t.pitch + by;
            }
            if (t.state == 2) {
                double q = t.torque + Math.max(-0.5, Math.min(0.5, t.turns * 0.5 - t.torque));
                t.torque = q < 0.0 ? 0.0 : q;
            } else {
                t.torque = t.torque / 2.0;
            }
            t.turns = Math.max(0.0,
                t.turns + 0.1 * (t.wind * (1.0 - t.pitch / 90.0) - t.torque - 0.1 * t.turns));
            if (t.torque * t.turns > t.bound) {
                t.torque = t.bound / t.turns;
            }
            t.energy = t.energy + t.torque * t.turns;
            slot = 4;
            if (t.state == 2) {
                t.slots[4].wears(Math.min(10000, (int) t.wind));
            }
            return 0;
        } catch (NullPointerException e) {
            failure = 1;
        } catch (ArithmeticException e) {
            failure = 6;
        }
        t.state = 4;
        t.torque = 0.0;
        if (findings.size() < 40) {
            findings.add(new int[] {number, slot, failure, steps + 1});
        }
        return 1;
    }

    int reset(int t) {
        unknown(noTurbine(t));
        if (turbines[t].state != 4) {
            throw new Refusal(-4);
        }
        turbines[t].state = 0;
        return 1;
    }

    long of(int n, int what) {
        unknown(noTurbine(n));
        outside(not(what, 0, 12));
        Turbine t = turbines[n];
        if (what >= 8) {
            return t.slots[what - 8] == null ? -1 : t.slots[what - 8].serial;
        }
        if (what == 0) {
            return t.state;
        }
        double[] all = {0.0, t.pitch, t.torque, t.turns, t.energy, t.bound, t.vote, t.wind};
        return Double.doubleToLongBits(all[what]);
    }

    int finding(int i, int what) {
        outside(not(what, 0, 3));
        return i >= 0 && i < findings.size() ? findings.get(i)[what] : -1;
    }

    int count(int what) {
        outside(not(what, 0, 5));
        int filled = 0;
        for (Object o : cases) {
            filled += o == null ? 0 : 1;
        }
        return new int[] {turbines.length, parts, filled, steps, findings.size(), trace.size()}[what];
    }
}
