import java.util.ArrayList;
import java.util.Arrays;
import java.util.List;

/** Each sentence on parts and seconds (promises 19 to 24) that names a boundary: what is let in, what is refused. */
public final class PartsBoundariesTest {
    private PartsBoundariesTest() {
    }

    public static void main(String[] args) {
        askArguments();
        limits();
        costs();
        wears();
        wearsOfPitch();
        told();
        trace();
        traceIsFull();
        secondsArguments();
        secondsOfNone();
        secondsByOrder();
        secondsOfSums();
        secondsOfEndless();
        secondsOfFloats();
        testArguments();
        testsOfItems();
        Sentences.end();
    }

    private static void askArguments() {
        Sentences.atLeast("19: a MEMBER (0 LIMIT, 1 COST, 2 WEARS); OUTSIDE", 0, "ask 19 # 5", "50", "0 OUTSIDE");
        Sentences.atMost("19: a MEMBER (0 LIMIT, 1 COST, 2 WEARS); OUTSIDE", 2, "ask 19 # 5", "5", "0 OUTSIDE");
        Sentences.furnished("19: a MEMBER (0 LIMIT, 1 COST, 2 WEARS)", "ask 19 1 5 = 500");
        Sentences.within("19: a LOAD 0 .. 10000; OUTSIDE", 0, 10000, "ask 19 WEARS #", "#", "0 OUTSIDE");
        Sentences.within("19: the LOAD is looked at with each MEMBER (LIMIT)", 0, 10000, "ask 19 LIMIT #", "50",
            "0 OUTSIDE");
        Sentences.within("19: the LOAD is looked at with each MEMBER (COST)", 0, 10000, "ask 19 COST #", "500",
            "0 OUTSIDE");
        for (int member = 0; member < 3; member++) {
            Sentences.furnished("19: CAST, NOTHING", "ask 16 " + member + " 0 = 0 CAST",
                "ask 17 " + member + " 0 = 0 CAST", "ask 20 " + member + " 0 = 0 CAST",
                "ask 0 " + member + " 0 = 0 NOTHING");
        }
        Sentences.furnished("19: UNKNOWN; OUTSIDE; CAST, NOTHING", "ask 24 3 -1 = 0 UNKNOWN", "ask 16 3 0 = 0 OUTSIDE",
            "ask 0 -1 0 = 0 OUTSIDE", "ask 16 0 10001 = 0 OUTSIDE", "ask 0 2 -1 = 0 OUTSIDE");
    }

    private static void limits() {
        int[] limits = {40, 30, 50, 50, 100, 60, 60};
        String[][] bodies = {{"11"}, {"12"}, {"13", "12"}, {"14"}, {"15", "14"}, {"16"}, {"17", "16"}};
        for (int kind = 0; kind < 7; kind++) {
            List<String> rows = new ArrayList<>(Arrays.asList("part 0 " + kind, "ask 0 LIMIT 0 = " + limits[kind]));
            for (int i = 0; i < bodies[kind].length; i++) {
                rows.add("traced " + i + " = " + bodies[kind][i]);
            }
            rows.add("traced " + bodies[kind].length + " = NONE");
            rows.add("told 0 WEAR = 0");
            Sentences.sentence("Terms: LIMIT by BODIES, behind their own beginning", rows.toArray(new String[0]));
        }
        int[][] heavies = {{0, 60}, {1, 61}, {9, 69}, {10, 60}, {11, 61}, {19, 69}, {20, 60}, {59, 69}};
        for (int[] heavy : heavies) {
            Sentences.sentence("Terms: 17 HEAVY: what 16 tells, and SERIAL % 10", heavy[0] + " x part 1 CUPS",
                "part 0 HEAVY", "ask 0 LIMIT 0 = " + heavy[1], "ask 0 COST 0 = " + heavy[1] * 15);
        }
    }

    private static void costs() {
        int[] costs = {400, 300, 500, 500, 1000, 600, 900};
        String[][] bodies = {{"21", "11"}, {"21", "12"}, {"21", "13", "12"}, {"21", "14"}, {"21", "15", "14"},
            {"21", "16"}, {"22", "17", "16"}};
        for (int kind = 0; kind < 7; kind++) {
            List<String> rows = new ArrayList<>(Arrays.asList("part 0 " + kind, "ask 0 COST 10000 = " + costs[kind]));
            for (int i = 0; i < bodies[kind].length; i++) {
                rows.add("traced " + i + " = " + bodies[kind][i]);
            }
            rows.add("traced " + bodies[kind].length + " = NONE");
            rows.add("told 0 WEAR = 0");
            Sentences.sentence("Terms: COST by BODIES, LIMIT as the PART has it", rows.toArray(new String[0]));
        }
    }

    private static void wears() {
        int[] ofAll = {0, 1, 2, 5, 6};
        for (int kind : ofAll) {
            Sentences.sentence("Terms: WEARS: 31 of all: LOAD", "part 0 " + kind, "ask 0 WEARS 0 = 0",
                "told 0 WEAR = 0", "ask 0 WEARS 10000 = 10000", "told 0 WEAR = 10000", "ask 0 WEARS 1 = 1",
                "told 0 WEAR = 10001", "traced 0 = 31", "traced 2 = 31", "forget = 3");
        }
        Sentences.sentence("Terms: 32 DRIVE: LOAD * LOAD / LIMIT, cut", "part 0 DRIVE", "ask 0 WEARS 0 = 0",
            "ask 0 WEARS 7 = 0", "ask 0 WEARS 8 = 1", "ask 0 WEARS 9 = 1", "ask 0 WEARS 10 = 2",
            "ask 0 WEARS 9999 = 1999600", "ask 0 WEARS 10000 = 2000000", "told 0 WEAR = 3999604");
        Sentences.sentence("Terms: 32 asks LIMIT as the PART has it", "part 0 DRIVE", "ask 0 WEARS 8 = 1",
            "traced 0 = 32", "traced 1 = 14", "traced 2 = NONE");
        Sentences.sentence("Terms: each WEARS that is asked adds what it tells, once", "part 0 DRIVE",
            "ask 0 WEARS 50 = 50", "told 0 WEAR = 50", "ask 0 WEARS 50 = 50", "told 0 WEAR = 100", "set 0 1",
            "told 1 WEAR = 100", "part 2 DRIVE", "told 2 WEAR = 0");
        Sentences.sentence("Terms: WEAR (a long)", "part 0 DRIVE", "200 x ask 0 WEARS 10000",
            "told 0 WEAR = 400000000");
    }

    private static void wearsOfPitch() {
        Sentences.sentence("Terms: 33 PITCH: LOAD / SERIAL (ZERO)", "part 0 PITCH", "ask 0 WEARS 0 = 0 ZERO ~",
            "told 0 WEAR = 0", "ask 0 WEARS 10000 = 0 ZERO ~", "told 0 WEAR = 0", "ask 0 LIMIT 0 = 100", "part 1 PITCH",
            "ask 1 WEARS 0 = 0", "ask 1 WEARS 1 = 1", "told 1 WEAR = 1");
        Sentences.sentence("Terms: 33 asks 32 ahead of its quotient", "part 0 PITCH", "ask 0 WEARS 5 = 0 ZERO ~",
            "traced 0 = 33", "traced 1 = 32", "traced 2 = 15", "traced 3 = 14", "traced 4 = NONE");
        Sentences.sentence("Terms: 33: what 32 tells, and LOAD / SERIAL", "part 0 CUPS", "part 0 PITCH",
            "ask 0 WEARS 9 = 9", "ask 0 WEARS 10 = 11", "ask 0 WEARS 10000 = 1010000", "told 0 WEAR = 1010020",
            "forget = 12");
        Sentences.sentence("Terms: 33: LOAD / SERIAL, cut", "7 x part 1 CUPS", "part 0 PITCH", "told 0 SERIAL = 7",
            "ask 0 WEARS 6 = 0", "ask 0 WEARS 7 = 1", "ask 0 WEARS 13 = 2", "ask 0 WEARS 14 = 3", "told 0 WEAR = 6");
        Sentences.sentence("Terms: 33: LOAD / SERIAL, of the last SERIAL", "59 x part 1 CUPS", "part 0 PITCH",
            "ask 0 WEARS 58 = 33", "ask 0 WEARS 59 = 35", "told 0 WEAR = 68");
        Sentences.sentence("Terms: a DRIVE has no quotient by SERIAL", "part 0 DRIVE", "told 0 SERIAL = 0",
            "ask 0 WEARS 10 = 2");
    }

    private static void told() {
        Sentences.atLeast("20: 0 KIND, 1 SERIAL, 2 WEAR; OUTSIDE", 0, "told 19 #", "SONIC", "0 OUTSIDE");
        Sentences.atMost("20: 0 KIND, 1 SERIAL, 2 WEAR; OUTSIDE", 2, "told 19 #", "8", "0 OUTSIDE", "ask 19 WEARS 8");
        Sentences.furnished("20: CAST, NOTHING", "told 16 0 = 0 CAST", "told 17 0 = 0 CAST", "told 20 1 = 0 CAST",
            "told 0 2 = 0 NOTHING");
        Sentences.furnished("20: UNKNOWN; OUTSIDE; CAST, NOTHING", "told 24 3 = 0 UNKNOWN", "told -1 -1 = 0 UNKNOWN",
            "told 16 3 = 0 OUTSIDE", "told 0 -1 = 0 OUTSIDE");
        Sentences.sentence("20: KIND 0, SERIAL 0, WEAR 0 are no refusals", "part 0 CUPS", "told 0 KIND = 0",
            "told 0 SERIAL = 0", "told 0 WEAR = 0", "part 0 HEAVY", "told 0 KIND = 6", "told 0 SERIAL = 1");
    }

    private static void trace() {
        Sentences.sentence("21: NONE (the TRACE has nothing)", "traced 0 = NONE", "traced -1 = NONE",
            "traced MAX = NONE", "traced MIN = NONE", "count 5 = 0");
        Sentences.sentence("21: BODY i of the TRACE", "part 0 SONIC", "ask 0 LIMIT 0", "traced 0 = 13", "traced 1 = 12",
            "traced 2 = NONE", "traced -1 = NONE", "traced MAX = NONE", "traced MIN = NONE");
        Sentences.sentence("22: the TRACE has nothing: how many it had", "forget = 0", "part 0 CUPS", "ask 0 LIMIT 0",
            "forget = 1", "traced 0 = NONE", "count 5 = 0", "forget = 0", "ask 0 WEARS 0", "traced 0 = 31",
            "forget = 1");
    }

    private static void traceIsFull() {
        Sentences.sentence("Terms: the TRACE (the first 60 since it was forgotten)", "part 0 CUPS", "part 1 VANE",
            "59 x ask 0 LIMIT 0", "count 5 = 59", "traced 58 = 11", "traced 59 = NONE", "ask 1 LIMIT 0", "count 5 = 60",
            "traced 59 = 12", "traced 60 = NONE", "ask 0 LIMIT 0 = 40", "count 5 = 60", "traced 59 = 12",
            "traced 60 = NONE", "forget = 60", "ask 1 LIMIT 0", "traced 0 = 12", "traced 1 = NONE");
        Sentences.sentence("Terms: the first 60: full within an ask", "part 0 CUPS", "part 1 HEAVY",
            "59 x ask 0 LIMIT 0", "ask 1 COST 0 = 915", "count 5 = 60", "traced 59 = 22", "traced 60 = NONE");
        Sentences.sentence("Terms: WEARS adds behind a full TRACE, too", "part 0 CUPS", "60 x ask 0 LIMIT 0",
            "ask 0 WEARS 7 = 7", "told 0 WEAR = 7", "traced 59 = 11");
    }

    /** Rows that fill a row of a lane in case 0. */
    private static String[] filled(String lane, String... items) {
        String[] rows = new String[items.length + 1];
        rows[0] = "row 0 " + lane + " " + items.length;
        for (int i = 0; i < items.length; i++) {
            rows[i + 1] = "put 0 " + lane + " " + i + " " + items[i];
        }
        return rows;
    }

    /** What seconds() tells of such a row, 0 to 5. */
    private static void secondsAre(String told, String lane, String items, String... want) {
        String[] rows = filled(lane, items.isEmpty() ? new String[0] : items.split(" "));
        for (int what = 0; what < 6; what++) {
            rows = Sentences.joined(rows, "seconds 0 " + lane + " " + what + " = " + want[what]);
        }
        Sentences.sentence(told, rows);
    }

    private static void secondsArguments() {
        Sentences.within("23: a ROW of floats (lane 5), doubles (6); OUTSIDE", 5, 6, "seconds 0 # 5", "1", "0 OUTSIDE",
            "row 0 # 1");
        Sentences.atLeast("23: what = 0 .. 5; OUTSIDE", 0, "seconds 0 doubles #", "4.0d", "0 OUTSIDE", filled("doubles",
            "4.0d"));
        Sentences.atMost("23: what = 0 .. 5; OUTSIDE", 5, "seconds 0 doubles #", "1", "0 OUTSIDE", filled("doubles",
            "4.0d"));
        for (int what = 0; what < 6; what++) {
            Sentences.furnished("23: CAST, NOTHING", "row 0 floats 0", "seconds 0 6 " + what + " = 0 CAST",
                "row 0 doubles 0", "seconds 0 5 " + what + " = 0 CAST", "seconds 16 6 " + what + " = 0 CAST",
                "seconds 17 5 " + what + " = 0 CAST", "seconds 18 5 " + what + " = 0 CAST",
                "seconds 20 6 " + what + " = 0 CAST", "seconds 1 5 " + what + " = 0 NOTHING",
                "seconds 1 6 " + what + " = 0 NOTHING");
        }
        Sentences.furnished("23: UNKNOWN; OUTSIDE; CAST, NOTHING, ZERO", "seconds 24 4 6 = 0 UNKNOWN",
            "seconds 16 3 4 = 0 OUTSIDE", "seconds 1 7 4 = 0 OUTSIDE", "seconds 16 5 6 = 0 OUTSIDE",
            "seconds 1 5 -1 = 0 OUTSIDE", "row 0 floats 0", "seconds 0 6 4 = 0 CAST", "seconds 1 6 4 = 0 NOTHING",
            "seconds 0 5 4 = 0 ZERO");
    }

    private static void secondsOfNone() {
        secondsAre("23: of none no number; ZERO; how many: no items", "doubles", "", "nan", "nan", "nan", "nan",
            "0 ZERO", "0");
        secondsAre("23: of none no number; ZERO; how many: no items", "floats", "", "nan", "nan", "nan", "nan",
            "0 ZERO", "0");
        secondsAre("23: items that are numbers being MEASURED: none is", "doubles",
            "nan 0xFFFFFFFFFFFFFFFF 0x7FF0000000000001", "nan", "nan", "nan", "nan", "0 ZERO", "0");
        secondsAre("23: items that are numbers being MEASURED: none is", "floats", "nanf 0xFFFFFFFF 0x7F800001", "nan",
            "nan", "nan", "nan", "0 ZERO", "0");
        secondsAre("23: MEASURED: one is", "doubles", "nan 3.5d nan", "3.5d", "3.5d", "3.5d", "3.5d", "3", "1");
        secondsAre("23: MEASURED: one is", "floats", "nanf 3.5f nanf", "3.5d", "3.5d", "3.5d", "3.5d", "3", "1");
        secondsAre("23: MEASURED: endless ones are numbers", "doubles", "inf", "inf", "inf", "inf", "inf",
            "9223372036854775807", "1");
        String thirty = "1.0d 2.0d 3.0d 4.0d 5.0d 6.0d 7.0d 8.0d 9.0d 10.0d 11.0d 12.0d 13.0d 14.0d 15.0d";
        secondsAre("23: of 30", "doubles", thirty + " " + thirty, "15.0d", "1.0d", "8.0d", "8.0d", "8", "30");
    }

    private static void secondsByOrder() {
        secondsAre("23: -0.0 is less than 0.0", "doubles", "0.0d -0.0d", "0.0d", "-0.0d", "0.0d", "-0.0d", "0", "2");
        secondsAre("23: -0.0 is less than 0.0", "doubles", "-0.0d 0.0d", "0.0d", "-0.0d", "0.0d", "-0.0d", "0", "2");
        secondsAre("23: -0.0 is less than 0.0", "doubles", "-0.0d -0.0d", "-0.0d", "-0.0d", "0.0d", "-0.0d", "0", "2");
        secondsAre("23: -0.0 is less than 0.0", "doubles", "0.0d -0.0d 0.0d", "0.0d", "-0.0d", "0.0d", "0.0d", "0",
            "3");
        secondsAre("23: -0.0 is less than 0.0", "floats", "0.0f 0x80000000", "0.0d", "-0.0d", "0.0d", "-0.0d", "0",
            "2");
        secondsAre("23: -0.0 is above what is below 0.0", "doubles", "-0.0d -4.9E-324d", "-0.0d", "-4.9E-324d", "-0.0d",
            "-4.9E-324d", "0", "2");
        secondsAre("23: the middle one by size, of two the lesser", "doubles", "9.0d -2.0d", "9.0d", "-2.0d", "3.5d",
            "-2.0d", "3", "2");
        secondsAre("23: the middle one by size, of two the lesser", "doubles", "-9.0d -2.0d", "-2.0d", "-9.0d", "-5.5d",
            "-9.0d", "-5", "2");
        secondsAre("23: the middle one by size", "doubles", "3.0d 1.0d 2.0d", "3.0d", "1.0d", "2.0d", "2.0d", "2", "3");
        secondsAre("23: the middle one by size", "doubles", "-8.0d 5.0d -3.0d", "5.0d", "-8.0d", "-2.0d", "-3.0d", "-2",
            "3");
        secondsAre("23: the middle one, of two the lesser, of four", "doubles", "4.0d 1.0d 3.0d 2.0d", "4.0d", "1.0d",
            "2.5d", "2.0d", "2", "4");
        secondsAre("23: the middle one leaves out what is no number", "doubles", "nan 4.0d nan 1.0d 3.0d", "4.0d",
            "1.0d", "2.6666666666666665d", "3.0d", "2", "3");
        Sentences.sentence("23: the order of items stays", Sentences.joined(filled("doubles", "3.0d", "1.0d", "2.0d"),
            "seconds 0 6 3 = 2.0d", "get 0 6 0 = 3.0d", "get 0 6 1 = 1.0d", "get 0 6 2 = 2.0d"));
    }

    private static void secondsOfSums() {
        secondsAre("23: their sum from 0.0 on, item by item", "doubles", "1.0E16d 1.0d -1.0E16d", "1.0E16d", "-1.0E16d",
            "0.0d", "1.0d", "0", "3");
        secondsAre("23: their sum from 0.0 on, item by item", "doubles", "1.0E16d -1.0E16d 1.0d", "1.0E16d", "-1.0E16d",
            "0.3333333333333333d", "1.0d", "0", "3");
        secondsAre("23: their sum, cast to a long", "doubles", "0.5d 0.4999999999999999d", "0.5d",
            "0.4999999999999999d", "0.49999999999999994d", "0.4999999999999999d", "0", "2");
        secondsAre("23: their sum, cast to a long", "doubles", "2.5d -0.5d", "2.5d", "-0.5d", "1.0d", "-0.5d", "1",
            "2");
        secondsAre("23: a quotient of longs (cut)", "doubles", "-3.5d -3.5d", "-3.5d", "-3.5d", "-3.5d", "-3.5d", "-3",
            "2");
        secondsAre("23: a quotient of longs (cut)", "doubles", "-1.0d -0.9d", "-0.9d", "-1.0d", "-0.95d", "-1.0d", "0",
            "2");
        secondsAre("23: cast to a long: too large", "doubles", "9.223372036854775807E18d", "9.223372036854775807E18d",
            "9.223372036854775807E18d", "9.223372036854775807E18d", "9.223372036854775807E18d", "9223372036854775807",
            "1");
        secondsAre("23: cast to a long: the last below", "doubles", "9.223372036854774784E18d",
            "9.223372036854774784E18d", "9.223372036854774784E18d", "9.223372036854774784E18d",
            "9.223372036854774784E18d", "9223372036854774784", "1");
        secondsAre("23: cast to a long: the least", "doubles", "-9.223372036854775808E18d", "-9.223372036854775808E18d",
            "-9.223372036854775808E18d", "-9.223372036854775808E18d", "-9.223372036854775808E18d", "LEAST", "1");
        secondsAre("23: cast to a long: too small", "doubles", "-1.0E300d -1.0E300d", "-1.0E300d", "-1.0E300d",
            "-1.0E300d", "-1.0E300d", "-4611686018427387904", "2");
        secondsAre("23: sums of the least doubles", "doubles", "4.9E-324d 4.9E-324d 4.9E-324d", "4.9E-324d",
            "4.9E-324d", "4.9E-324d", "4.9E-324d", "0", "3");
    }

    private static void secondsOfEndless() {
        String max = "1.7976931348623157E308d";
        secondsAre("23: sum beyond all doubles", "doubles", max + " " + max, max, max, "inf", max,
            "4611686018427387903", "2");
        secondsAre("23: sum beyond all doubles stays so", "doubles", max + " " + max + " -" + max, max, "-" + max,
            "inf", max, "3074457345618258602", "3");
        secondsAre("23: endless ones", "doubles", "-inf 1.0d", "1.0d", "-inf", "-inf", "-inf", "-4611686018427387904",
            "2");
        secondsAre("23: both endless ones: their sum is no number", "doubles", "inf -inf", "inf", "-inf", "nan", "-inf",
            "0", "2");
        secondsAre("23: both endless ones: their sum is no number", "doubles", "-inf 5.0d inf", "inf", "-inf", "nan",
            "5.0d", "0", "3");
        secondsAre("23: the sum endless on the way, then the other", "doubles", max + " " + max + " -inf", max, "-inf",
            "nan", max, "0", "3");
        secondsAre("23: the sum endless on the way, then the same", "doubles", max + " " + max + " inf", "inf", max,
            "inf", max, "3074457345618258602", "3");
    }

    private static void secondsOfFloats() {
        secondsAre("23: BITS as doubles (the least float)", "floats", "1.4E-45f", "1.401298464324817E-45d",
            "1.401298464324817E-45d", "1.401298464324817E-45d", "1.401298464324817E-45d", "0", "1");
        secondsAre("23: BITS as doubles (the last without, the first with all digits)", "floats",
            "0x007FFFFF 0x00800000", "1.1754943508222875E-38d", "1.1754942106924411E-38d", "1.1754942807573643E-38d",
            "1.1754942106924411E-38d", "0", "2");
        secondsAre("23: BITS as doubles (the greatest float)", "floats", "0x7F7FFFFF 0x7F7FFFFF",
            "3.4028234663852886E38d", "3.4028234663852886E38d", "3.4028234663852886E38d", "3.4028234663852886E38d",
            "4611686018427387903", "2");
        secondsAre("23: BITS as doubles (endless)", "floats", "0x7F800000 0xFF7FFFFF", "inf", "-3.4028234663852886E38d",
            "inf", "-3.4028234663852886E38d", "4611686018427387903", "2");
        secondsAre("23: BITS as doubles (endless)", "floats", "0xFF800000 0x7F800000", "inf", "-inf", "nan", "-inf",
            "0", "2");
        secondsAre("23: the sum of floats is one of doubles", "floats", "1.0E8f 1.0f", "1.0E8d", "1.0d", "50000000.5d",
            "1.0d", "50000000", "2");
    }

    private static void testArguments() {
        Sentences.within("24: such a ROW (5, 6); OUTSIDE", 5, 6, "test 0 # 0 0 4", "1", "OUTSIDE", "row 0 # 1");
        Sentences.atLeast("24: a test 0 .. 11; OUTSIDE", 0, "test 0 floats 0 1 #", "1", "OUTSIDE", filled("floats",
            "1.0f", "2.0f"));
        Sentences.atMost("24: a test 0 .. 11; OUTSIDE", 11, "test 0 floats 0 1 #", "0", "OUTSIDE", filled("floats",
            "1.0f", "2.0f"));
        Sentences.within("24: INDEX (i)", 0, 29, "test 0 doubles # 0 4", "1", "INDEX", "row 0 doubles 30");
        Sentences.within("24: INDEX (j)", 0, 29, "test 0 doubles 0 # 4", "1", "INDEX", "row 0 doubles 30");
        Sentences.sentence("24: INDEX: no items", "row 0 floats 0", "test 0 floats 0 0 4 = INDEX",
            "test 0 floats -1 -1 4 = INDEX");
        Sentences.furnished("24: CAST, NOTHING", "row 0 floats 1", "test 0 6 0 0 0 = CAST", "row 0 doubles 1",
            "test 0 5 0 0 0 = CAST", "test 16 5 0 0 0 = CAST", "test 17 5 0 0 0 = CAST", "test 18 6 0 0 0 = CAST",
            "test 20 6 0 0 0 = CAST", "test 1 5 0 0 0 = NOTHING", "test 1 6 0 0 0 = NOTHING");
        Sentences.furnished("24: UNKNOWN; OUTSIDE; CAST, NOTHING, INDEX", "test 24 4 9 9 12 = UNKNOWN",
            "test 16 4 9 9 0 = OUTSIDE", "test 1 7 9 9 0 = OUTSIDE", "test 16 5 9 9 12 = OUTSIDE",
            "test 1 5 9 9 -1 = OUTSIDE", "test 16 5 9 9 0 = CAST", "test 1 5 9 9 0 = NOTHING", "row 0 floats 1",
            "test 0 5 0 1 0 = INDEX", "test 0 5 1 0 0 = INDEX");
    }

    /** The answers to the tests 0 to 5 of items 0 and 1; 6 to 11 are these denied. */
    private static void testsAre(String lane, String one, String other, String passes) {
        String[] rows = filled(lane, one, other);
        for (int t = 0; t < 6; t++) {
            int is = passes.charAt(t) - '0';
            rows = Sentences.joined(rows, "test 0 " + lane + " 0 1 " + t + " = " + is,
                "test 0 " + lane + " 0 1 " + (t + 6) + " = " + (1 - is));
        }
        Sentences.sentence("24: 0 below .. 5 not the same, as the language has them; 6 .. 11 those denied", rows);
    }

    private static void testsOfItems() {
        String less = "110001";
        String same = "010110";
        String more = "001101";
        String none = "000001";
        testsAre("doubles", "1.0d", "up(1.0)", less);
        testsAre("doubles", "1.0d", "1.0d", same);
        testsAre("doubles", "up(1.0)", "1.0d", more);
        testsAre("doubles", "nan", "1.0d", none);
        testsAre("doubles", "1.0d", "nan", none);
        testsAre("doubles", "nan", "nan", none);
        testsAre("doubles", "-0.0d", "0.0d", same);
        testsAre("doubles", "0.0d", "-0.0d", same);
        testsAre("doubles", "-4.9E-324d", "-0.0d", less);
        testsAre("doubles", "4.9E-324d", "-0.0d", more);
        testsAre("doubles", "-inf", "-1.7976931348623157E308d", less);
        testsAre("doubles", "inf", "1.7976931348623157E308d", more);
        testsAre("doubles", "inf", "inf", same);
        testsAre("doubles", "-inf", "inf", less);
        testsAre("doubles", "-2.0d", "-1.0d", less);
        testsAre("floats", "1.0f", "0x3F800001", less);
        testsAre("floats", "0x80000001", "0x80000000", less);
        testsAre("floats", "0x80000000", "0", same);
        testsAre("floats", "nanf", "nanf", none);
        testsAre("floats", "inff", "nanf", none);
        testsAre("floats", "-inff", "0xFF7FFFFF", less);
        testsAre("floats", "inff", "inff", same);
        testsAre("floats", "0x00800000", "0x007FFFFF", more);
    }
}
