import java.util.ArrayList;
import java.util.Arrays;
import java.util.HashMap;
import java.util.List;
import java.util.Map;

/**
 * Sentences of the document, each held against runs of calls on new objects. A run is told as rows of text:
 *
 * <pre>
 *   row 0 ints 30 = 30           a call, its arguments, and the answer that is due; why() must be 0 behind it
 *   row 0 ints 31 = OUTSIDE      a refused call; why() must tell the same
 *   get 0 ints 30 = 0 INDEX      a call that answers 0 where it is refused, and what why() must tell
 *   16 x step 0 SAY 1            a call sixteen times over; without an answer it must not be refused
 *   fit 0 3 DRIVE                a new part of a kind into a slot, by an act of plans 8 and 9 through case 22
 * </pre>
 *
 * Behind each call that is refused, or meets a failure, the object must be as one that never heard it, in all that
 * calls can tell; only rows that end with ~ may change something (and an act that fails, what is told of the latest).
 */
final class Sentences {
    private static final Map<String, Long> WORDS = new HashMap<>();
    private static final List<String> REFUSALS = Arrays.asList("UNKNOWN", "OUTSIDE", "STATE", "ROOM", "NOTHING",
        "INDEX", "SIZE", "CAST", "STORE", "ZERO", "HOLD", "DEEP", "SPENT");
    /**
     * Things, plans and turbines that are there, so that a refused call has something to spoil: in the step that comes
     * next both turbines fail, turbine 1 first by its line, and one of turbine 0's sensors is frozen.
     */
    private static final String[] FURNITURE = {"row 16 ints 2", "put 16 ints 1 7", "grid 17 1 2", "putAt 17 0 1 5",
        "part 18 PITCH", "part 19 SONIC", "cradle 20 VANE 2", "lay 20 1 19", "set 19 21", "ask 19 COST 0",
        "step 7 SAY 5", "step 7 ANSWER 9", "place 0 3 4", "place 1 5 0", "wind 1 true", "read 0 1 9.0d", "run 2",
        "fit 0 1 VANE", "set 19 0", "set 19 1", "step 6 TAKE 0", "step 6 FIT 0 2", "step 6 TAKE 1", "step 6 FIT 1 2",
        "act 6", "drop 6", "read 0 2 9.5d", "read 1 2 9.0d", "act 7"};

    static {
        number(-1, "NONE", "UNKNOWN", "OUTSIDE", "STATE", "ROOM");
        number(-11, "NOTHING", "INDEX", "SIZE", "CAST", "STORE", "ZERO", "HOLD", "DEEP", "SPENT");
        count("bytes", "shorts", "chars", "ints", "longs", "floats", "doubles", "truths", "GRID", "CRADLE", "PART");
        count("CUPS", "VANE", "SONIC", "DRIVE", "PITCH", "BLADE", "HEAVY", "SENSOR");
        count("LIMIT", "COST", "WEARS");
        count("KIND", "SERIAL", "WEAR");
        count("TAKE", "LAY", "WRITE", "SAY", "ANSWER", "SAYLAST", "FAIL", "DO", "TRY", "FINALLY", "HOLDING", "WAKE",
            "FIT", "STRIP");
        count("WAITING", "STARTING", "MAKING", "STOPPING", "FAILED");
        count("false", "true");
        WORDS.put("MIN", (long) Integer.MIN_VALUE);
        WORDS.put("MAX", (long) Integer.MAX_VALUE);
        WORDS.put("LEAST", Long.MIN_VALUE);
        WORDS.put("MOST", Long.MAX_VALUE);
        WORDS.put("nan", 9221120237041090560L);
        WORDS.put("nanf", 2143289344L);
        WORDS.put("inf", Double.doubleToLongBits(Double.POSITIVE_INFINITY));
        WORDS.put("-inf", Double.doubleToLongBits(Double.NEGATIVE_INFINITY));
        WORDS.put("inff", (long) Float.floatToIntBits(Float.POSITIVE_INFINITY));
        WORDS.put("-inff", (long) Float.floatToIntBits(Float.NEGATIVE_INFINITY));
    }

    private static int told = 0;
    private static int wrong = 0;

    private Sentences() {
    }

    private static void number(int first, String... words) {
        for (int i = 0; i < words.length; i++) {
            WORDS.put(words[i], (long) first - i);
        }
    }

    private static void count(String... words) {
        for (int i = 0; i < words.length; i++) {
            WORDS.put(words[i], (long) i);
        }
    }

    /** What the rows tell, on a new object with two turbines. */
    static void sentence(String words, String... rows) {
        of(words, 2, rows);
    }

    /** What the rows tell, on a new object with so many turbines. */
    static void of(String words, int turbines, String... rows) {
        told++;
        new Run(words, turbines).play(rows);
    }

    /** What the rows tell, on an object with two turbines that holds much already (cases 16 to 21, plan 7). */
    static void furnished(String words, String... rows) {
        of(words, 2, joined(FURNITURE, rows));
    }

    /** A number of a call, told as #, is let in from low to high, and refused beyond. */
    static void within(String words, int low, int high, String call, String answer, String refusal, String... setup) {
        atLeast(words, low, call, answer, refusal, setup);
        atMost(words, high, call, answer, refusal, setup);
    }

    /** The least that is let in, and what is refused below it. */
    static void atLeast(String words, int low, String call, String answer, String refusal, String... setup) {
        letIn(words, low, call, answer, setup);
        refuse(words, low, low - 1, call, refusal, setup);
        refuse(words, low, Integer.MIN_VALUE, call, refusal, setup);
    }

    /** The most that is let in, and what is refused above it. */
    static void atMost(String words, int high, String call, String answer, String refusal, String... setup) {
        letIn(words, high, call, answer, setup);
        refuse(words, high, high + 1, call, refusal, setup);
        refuse(words, high, Integer.MAX_VALUE, call, refusal, setup);
    }

    private static void letIn(String words, int number, String call, String answer, String[] setup) {
        String row = call + " = " + answer;
        furnished(words, put(number, joined(setup, row)));
    }

    /** The setup is that of a number that is let in. */
    private static void refuse(String words, int good, int number, String call, String refusal, String[] setup) {
        String row = (call + " = " + refusal).replace("#", Integer.toString(number));
        furnished(words, joined(put(good, setup), row));
    }

    private static String[] put(int number, String[] rows) {
        String[] all = rows.clone();
        for (int i = 0; i < all.length; i++) {
            all[i] = all[i].replace("#", Integer.toString(number));
        }
        return all;
    }

    static String[] joined(String[] first, String... rest) {
        String[] all = Arrays.copyOf(first, first.length + rest.length);
        System.arraycopy(rest, 0, all, first.length, rest.length);
        return all;
    }

    /** To be called last: tells what was found, and ends the test with 1 if something was wrong. */
    static void end() {
        System.out.println(wrong == 0 ? told + " runs are as the sentences say" : wrong + " answers are not as due");
        if (wrong != 0) {
            System.exit(1);
        }
    }

    private static long valueOf(String token) {
        Long known = WORDS.get(token);
        if (known != null) {
            return known;
        }
        if (token.startsWith("0x")) {
            return Long.parseUnsignedLong(token.substring(2), 16);
        }
        if (token.endsWith(")")) {
            double d = Double.parseDouble(token.substring(token.indexOf('(') + 1, token.length() - 1));
            return Double.doubleToLongBits(token.startsWith("up(") ? Math.nextUp(d) : Math.nextDown(d));
        }
        if (token.endsWith("d")) {
            return Double.doubleToLongBits(Double.parseDouble(token.substring(0, token.length() - 1)));
        }
        if (token.endsWith("f")) {
            return Float.floatToIntBits(Float.parseFloat(token.substring(0, token.length() - 1)));
        }
        return Long.parseLong(token);
    }

    /** One call of a run with what is due. */
    private static final class Row {
        final String text;
        final String name;
        final long[] arguments;
        final boolean hasAnswer;
        final long answer;
        final long why;
        final boolean mayChange;

        Row(String text) {
            this.text = text;
            mayChange = text.endsWith("~");
            String[] sides = text.replace("~", "").trim().split(" += +");
            String[] call = sides[0].trim().split(" +");
            name = call[0];
            arguments = new long[call.length - 1];
            for (int i = 1; i < call.length; i++) {
                arguments[i - 1] = valueOf(call[i]);
            }
            hasAnswer = sides.length > 1;
            String[] due = hasAnswer ? sides[1].trim().split(" +") : new String[] {"0"};
            answer = valueOf(due[0]);
            String told = due[due.length - 1];
            why = REFUSALS.contains(told) ? valueOf(told) : 0;
        }

        long callOn(WindPark x) {
            return ParkCalls.call(x, name, arguments);
        }
    }

    /** The calls that one object has heard. */
    private static final class Run {
        private final String words;
        private final int turbines;
        private final WindPark park;
        private final List<Row> heard = new ArrayList<>();

        Run(String words, int turbines) {
            this.words = words;
            this.turbines = turbines;
            park = new WindPark(turbines);
        }

        void play(String[] rows) {
            for (String row : rows) {
                String[] times = row.split(" x ", 2);
                for (int i = 0; i < (times.length > 1 ? Integer.parseInt(times[0].trim()) : 1); i++) {
                    playEach(times[times.length - 1]);
                }
            }
        }

        private void playEach(String row) {
            if (!row.startsWith("fit ")) {
                playOne(new Row(row));
                return;
            }
            String[] fit = row.split(" +");
            String[] calls = {"drop 8", "drop 9", "part 22 " + fit[3], "step 8 TAKE 22",
                "step 8 HOLDING " + fit[1] + " 9", "step 9 FIT " + fit[1] + " " + fit[2], "act 8"};
            for (String call : calls) {
                playOne(new Row(call));
            }
        }

        private void playOne(Row row) {
            long got = row.callOn(park);
            long why = park.why();
            if (row.hasAnswer && got != row.answer) {
                complain(row.text + ": answered " + got + " (why " + why + ")");
            } else if (why != row.why) {
                complain(row.text + ": why() is " + why);
            }
            if (row.why != 0 && !row.mayChange) {
                changesNothing(row);
            }
            heard.add(row);
        }

        private void changesNothing(Row refused) {
            WindPark with = new WindPark(turbines);
            WindPark without = new WindPark(turbines);
            for (Row row : heard) {
                row.callOn(with);
                row.callOn(without);
            }
            refused.callOn(with);
            boolean acted = refused.name.equals("act") && refused.why != valueOf("UNKNOWN");
            Probe probed = new Probe(with, heard.size() + 1, acted);
            Probe due = new Probe(without, heard.size(), acted);
            if (!probed.all().equals(due.all())) {
                complain(refused.text + ": something has changed");
            }
            if (due.calls > 512) {
                complain(refused.text + ": the object is asked too much, " + due.calls + " calls");
            }
        }

        private void complain(String what) {
            wrong++;
            System.out.println("\"" + words + "\": " + what);
        }
    }

    /** All that calls can tell of an object, up to what its plans and its next steps would do. */
    private static final class Probe {
        private final WindPark x;
        private final StringBuilder seen = new StringBuilder();
        private final boolean sparesAct;
        int calls;

        /** An act that is undone is the latest nevertheless, so that what is told of it is spared. */
        Probe(WindPark x, int calls, boolean sparesAct) {
            this.x = x;
            this.calls = calls;
            this.sparesAct = sparesAct;
        }

        String all() {
            see("counts");
            for (int what = 0; what < 6; what++) {
                see(ask("count", what));
            }
            cases();
            past();
            turbines();
            plans();
            for (int i = 0; i < 3; i++) {
                see(ask("run", 1));
                turbines();
                findings();
            }
            // Last, since this asks what may be refused.
            cradles();
            return seen.toString();
        }

        private long ask(String name, long... a) {
            calls++;
            return ParkCalls.call(x, name, a);
        }

        private void see(Object what) {
            seen.append(what).append(' ');
        }

        private void cases() {
            see("cases");
            List<Integer> filled = new ArrayList<>();
            for (int c = 0; c < 24; c++) {
                int sort = (int) ask("holds", c);
                see(sort);
                if (sort >= 0) {
                    things(c, sort);
                    filled.add(c);
                }
            }
            for (int i = 1; i < filled.size(); i++) {
                see(ask("alike", filled.get(i - 1), filled.get(i)));
            }
        }

        private void things(int c, int sort) {
            if (sort == 10) {
                for (int what = 0; what < 3; what++) {
                    see(ask("told", c, what));
                }
                return;
            }
            int n = (int) ask("length", c, sort);
            see(n);
            for (int i = 0; i < n && sort < 8; i++) {
                see(ask("get", c, sort, i));
            }
            for (int i = 0; i < n && sort == 8; i++) {
                for (int j = 0; j <= 12; j++) {
                    long item = ask("getAt", c, i, j);
                    long why = ask("why");
                    see(why == 0 ? item : "why" + why);
                    if (why != 0) {
                        break;
                    }
                }
            }
        }

        /** What lies in cradles, as all that can be told of it from a case. */
        private void cradles() {
            see("cradles");
            for (int c = 0; c < 24; c++) {
                int n = ask("holds", c) == 9 ? (int) ask("length", c, 9) : 0;
                for (int i = 0; i < n; i++) {
                    int to = c == 23 ? 22 : 23;
                    for (int kind = 0; kind < 7; kind++) {
                        see(ask("lift", c, i, kind, to));
                    }
                    see(ask("holds", to) == 10 ? ask("told", to, 1) : "none");
                }
            }
        }

        private void past() {
            see("trace");
            long bodies = ask("count", 5);
            for (int i = 0; i < bodies; i++) {
                see(ask("traced", i));
            }
            if (!sparesAct) {
                acts();
            }
            findings();
        }

        private void findings() {
            see("findings");
            int findings = (int) ask("count", 4);
            // Of many, the first and the last tell enough.
            for (int i = 0; i < findings; i += Math.max(1, findings - 1)) {
                for (int what = 0; what < 4; what++) {
                    see(ask("finding", i, what));
                }
            }
        }

        private void acts() {
            see("act");
            for (int what = 0; what < 6; what++) {
                see(ask("acted", what));
            }
            for (int i = 0; i < 4; i++) {
                see(ask("said", i));
            }
        }

        private void turbines() {
            see("turbines");
            long n = ask("count", 0);
            for (int t = 0; t < n; t++) {
                for (int what = 0; what < 13; what++) {
                    see(ask("of", t, what));
                }
            }
        }

        private void plans() {
            see("plans");
            for (int p = 0; p < 10; p++) {
                see(ask("act", p));
                long begun = ask("acted", 1);
                see(begun);
                if (begun > 0) {
                    acts();
                }
            }
            for (int p = 0; p < 10; p++) {
                see(ask("drop", p));
            }
        }
    }
}
