/** Each sentence on turbines (promises 30 to 39) that names a boundary: what is let in, what is refused. */
public final class FarmBoundariesTest {
    /** Turbine 0 with what it needs to make. */
    private static final String[] WHOLE = {"fit 0 0 CUPS", "fit 0 3 DRIVE", "fit 0 4 BLADE"};
    /** That turbine making, with PITCH 0.0 and TURNS of 8.3. */
    private static final String[] MAKING = Sentences.joined(WHOLE, "read 0 0 5.0d", "run 40 = 0", "run 40 = 0",
        "of 0 0 = MAKING", "of 0 1 = 0.0d");

    private FarmBoundariesTest() {
    }

    public static void main(String[] args) {
        place();
        read();
        wind();
        bound();
        runArguments();
        reset();
        ofArguments();
        findingArguments();
        why();
        count();
        turbinesAtFirst();
        voteOfReadings();
        voteOfZeros();
        coldFromTheThird();
        coldOtherBits();
        coldOfBareAndFailed();
        waitingStarts();
        startingMakes();
        above16Stops();
        blindStops();
        stoppingWaits();
        failedStays();
        pitchByRates();
        pitchOfMaking();
        drivesAreWorn();
        torque();
        turns();
        boundCuts();
        bladesAreWorn();
        drivesFail();
        bladesFail();
        findingsInOrder();
        findingsKept();
        wakesAcross();
        wakesAslant();
        wakesAlong();
        wakesOfWhom();
        wakesOfMany();
        traceOfSteps();
        Sentences.end();
    }

    private static void place() {
        Sentences.within("30: turbines (as many as told); UNKNOWN", 0, 1, "place # 5 5", "1", "UNKNOWN");
        Sentences.within("30: x (-100 .. 100); OUTSIDE", -100, 100, "place 0 # 7", "1", "OUTSIDE");
        Sentences.within("30: y (-100 .. 100); OUTSIDE", -100, 100, "place 0 7 #", "1", "OUTSIDE");
        Sentences.furnished("30: UNKNOWN ahead of OUTSIDE", "place 2 101 -101 = UNKNOWN", "place -1 0 101 = UNKNOWN",
            "place 1 101 101 = OUTSIDE");
        Sentences.of("30: turbines 0 .. 5", 6, "place 5 1 1 = 1", "place 6 1 1 = UNKNOWN");
    }

    private static void read() {
        Sentences.within("31: UNKNOWN", 0, 1, "read # 0 3.0d", "1", "UNKNOWN");
        Sentences.within("31: SENSOR 0 .. 2; UNKNOWN (the SENSOR, too)", 0, 2, "read 0 # 3.0d", "1", "UNKNOWN");
        String[][] readings = {{"1000.0d", "1"}, {"up(1000.0)", "OUTSIDE"}, {"-1000.0d", "1"}, {"down(-1000.0)",
            "OUTSIDE"}, {"inf", "OUTSIDE"}, {"-inf", "OUTSIDE"}, {"0.0d", "1"}, {"-0.0d", "1"}, {"4.9E-324d", "1"},
            {"1.7976931348623157E308d", "OUTSIDE"}, {"nan", "1"}, {"0x7FF0000000000001", "1"}, {"0xFFF0000000000001",
            "1"}, {"-1", "1"}};
        for (String[] pair : readings) {
            Sentences.furnished("31: OUTSIDE: a number that is not -1000.0 .. 1000.0",
                "read 0 1 " + pair[0] + " = " + pair[1]);
        }
        Sentences.sentence("31: the READING becomes the double with these bits", "fit 0 0 CUPS", "read 0 0 1000.0d",
            "run 1", "of 0 6 = 1000.0d", "reset 0", "read 0 0 -1000.0d", "run 1", "of 0 6 = -1000.0d",
            "read 0 0 4.9E-324d", "run 1", "of 0 6 = 4.9E-324d", "read 0 0 -0.0d", "run 1", "of 0 6 = -0.0d",
            "of 0 7 = -0.0d", "read 0 0 -1", "run 1", "of 0 6 = nan", "of 0 7 = 0.0d");
        Sentences.furnished("31: UNKNOWN ahead of OUTSIDE", "read 2 0 inf = UNKNOWN", "read 0 3 inf = UNKNOWN",
            "read 0 0 inf = OUTSIDE");
    }

    private static void wind() {
        Sentences.within("32: DIRECTION 0 .. 7; OUTSIDE", 0, 7, "wind # true", "1", "OUTSIDE");
        Sentences.within("32: DIRECTION 0 .. 7; OUTSIDE", 0, 7, "wind # false", "1", "OUTSIDE");
    }

    private static void bound() {
        Sentences.within("33: UNKNOWN", 0, 1, "bound # 5.0d", "1", "UNKNOWN");
        String[][] bounds = {{"0.0d", "1"}, {"-0.0d", "1"}, {"4.9E-324d", "1"}, {"-4.9E-324d", "OUTSIDE"}, {"-1.0d",
            "OUTSIDE"}, {"inf", "1"}, {"-inf", "OUTSIDE"}, {"1.7976931348623157E308d", "1"}, {"nan", "OUTSIDE"},
            {"0x7FF0000000000001", "OUTSIDE"}, {"0xFFF0000000000001", "OUTSIDE"}, {"-1", "OUTSIDE"}};
        for (String[] pair : bounds) {
            Sentences.furnished("33: OUTSIDE: it is no number, or below 0.0", "bound 1 7.0d",
                "bound 1 " + pair[0] + " = " + pair[1], "of 1 5 = " + (pair[1].equals("1") ? pair[0] : "7.0d"),
                "of 0 5 = 1000.0d");
        }
        Sentences.furnished("33: UNKNOWN ahead of OUTSIDE", "bound 2 nan = UNKNOWN", "bound -1 -1.0d = UNKNOWN");
    }

    private static void runArguments() {
        Sentences.within("34: so many STEPS (1 .. 40); OUTSIDE", 1, 40, "run #", "2", "OUTSIDE");
        Sentences.sentence("34: so many STEPS", "run 1 = 0", "count 3 = 1", "run 40 = 0", "count 3 = 41",
            "run 0 = OUTSIDE", "run 41 = OUTSIDE", "count 3 = 41");
        Sentences.sentence("34: FINDINGS that came", "run 40 = 0", "fit 0 0 CUPS", "fit 1 0 CUPS", "read 0 0 9.0d",
            "run 1 = 1", "run 1 = 0", "read 1 0 9.0d", "reset 0", "run 40 = 2", "run 40 = 0");
    }

    private static void reset() {
        Sentences.within("35: UNKNOWN", 0, 1, "reset #", "1", "UNKNOWN", "run 1 = 2");
        Sentences.furnished("35: STATE: it is not FAILED (WAITING)", "of 1 0 = WAITING", "reset 1 = STATE");
        Sentences.sentence("35: STATE: it is not FAILED (STARTING)", Sentences.joined(WHOLE, "read 0 0 9.0d",
            "run 1 = 0", "of 0 0 = STARTING", "reset 0 = STATE"));
        Sentences.sentence("35: STATE: it is not FAILED (MAKING)", Sentences.joined(MAKING, "reset 0 = STATE"));
        Sentences.sentence("35: STATE: it is not FAILED (STOPPING)", Sentences.joined(MAKING, "read 0 0 nan",
            "run 1 = 0", "of 0 0 = STOPPING", "reset 0 = STATE"));
        Sentences.sentence("35: FAILED becomes WAITING: 1", "fit 0 0 CUPS", "read 0 0 9.0d", "run 1 = 1",
            "of 0 0 = FAILED", "reset 0 = 1", "of 0 0 = WAITING", "of 0 1 = 90.0d", "of 0 6 = 9.0d", "reset 0 = STATE",
            "count 4 = 1", "run 1 = 1", "count 4 = 2");
        Sentences.furnished("35: UNKNOWN ahead of STATE", "reset 2 = UNKNOWN", "reset -1 = UNKNOWN");
    }

    private static void ofArguments() {
        Sentences.within("36: UNKNOWN", 0, 1, "of # 5", "1000.0d", "0 UNKNOWN");
        Sentences.atLeast("36: 0 its STATE .. 8 + s; OUTSIDE", 0, "of 0 #", "0", "0 OUTSIDE");
        Sentences.atMost("36: 0 its STATE .. 8 + s; OUTSIDE", 12, "of 0 #", "NONE", "0 OUTSIDE");
        Sentences.furnished("36: UNKNOWN ahead of OUTSIDE", "of 2 13 = 0 UNKNOWN", "of -1 -1 = 0 UNKNOWN",
            "of 1 13 = 0 OUTSIDE");
        String[] kinds = {"CUPS", "VANE", "SONIC", "PITCH", "HEAVY"};
        for (int s = 0; s < 5; s++) {
            Sentences.sentence("36: 8 + s the SERIAL of what is in SLOT s (NONE)", "of 1 " + (8 + s) + " = NONE",
                "fit 1 " + s + " " + kinds[s], "of 1 " + (8 + s) + " = 0", "of 1 " + (8 + (s + 1) % 5) + " = NONE",
                "of 0 " + (8 + s) + " = NONE", "fit 1 " + s + " " + kinds[s], "of 1 " + (8 + s) + " = 1",
                "told 23 SERIAL = 0");
        }
        Sentences.sentence("36: 6, 7 0 before; of the latest STEP", "fit 0 0 CUPS", "read 0 0 2.5d", "of 0 6 = 0",
            "of 0 7 = 0", "run 1", "of 0 6 = 2.5d", "of 0 7 = 2.5d", "read 0 0 3.5d", "of 0 6 = 2.5d", "of 0 7 = 2.5d",
            "run 1", "of 0 6 = 3.5d");
        Sentences.sentence("36: 6 of none: no number; 7 0.0", "run 1", "of 0 6 = nan", "of 0 7 = 0.0d");
        Sentences.sentence("36: 6, 7 of a FAILED one as they were", "fit 0 0 CUPS", "read 0 0 9.5d", "run 1 = 1",
            "of 0 6 = 9.5d", "of 0 7 = 9.5d", "read 0 0 3.0d", "run 1 = 0", "of 0 6 = 9.5d", "of 0 7 = 9.5d", "reset 0",
            "of 0 6 = 9.5d", "run 1 = 0", "of 0 6 = 3.0d", "of 0 7 = 3.0d");
    }

    private static void findingArguments() {
        String[] two = {"wind 0 false", "run 1 = 2"};
        Sentences.atLeast("37: 0 the turbine .. 3 the STEP's number; OUTSIDE", 0, "finding 0 #", "0", "OUTSIDE", two);
        Sentences.atMost("37: 0 the turbine .. 3 the STEP's number; OUTSIDE", 3, "finding 0 #", "3", "OUTSIDE", two);
        Sentences.furnished("37: OUTSIDE (of none such, too)", "finding 0 4 = OUTSIDE", "finding -1 -1 = OUTSIDE",
            "finding 40 4 = OUTSIDE");
        for (int what = 0; what < 4; what++) {
            Sentences.sentence("37: NONE: there is none such", "finding 0 " + what + " = NONE",
                "finding -1 " + what + " = NONE", "finding MAX " + what + " = NONE", "finding MIN " + what + " = NONE",
                "fit 1 0 CUPS", "read 1 0 9.0d", "run 1 = 1", "finding 0 " + what + " = " + new int[] {1, 3, 1,
                1}[what], "finding 1 " + what + " = NONE", "finding -1 " + what + " = NONE",
                "finding MAX " + what + " = NONE", "finding MIN " + what + " = NONE");
        }
    }

    private static void why() {
        Sentences.sentence("38: 0 (no call yet)", "why = 0");
        String[] calls = {"row 0 ints 1 = 1", "grid 0 1 1 = 1", "cradle 0 CUPS 1 = 1", "part 0 CUPS = 3", "set 0 1 = 0",
            "clear 0 = 0", "holds 0 = NONE", "put 16 ints 0 4 = 1", "get 16 ints 1 = 7", "get 16 ints 0 = 0",
            "putAt 17 0 0 4 = 1", "getAt 17 0 1 = 5", "getAt 17 0 0 = 0", "link 17 0 16 = 1", "lay 20 0 19 = 1",
            "lift 20 1 VANE 0 = 1", "copy 16 0 16 0 0 = 0", "length 16 ints = 2", "alike 0 16 = 0",
            "ask 19 LIMIT 0 = 50", "ask 19 COST 0 = 500", "ask 19 WEARS 0 = 0", "told 19 WEAR = 0", "traced 60 = NONE",
            "forget = 3", "seconds 10 doubles 5 = 1", "seconds 10 doubles 4 = 0", "test 10 doubles 0 0 0 = 0",
            "step 0 SAY 1 = 1", "drop 0 = 0", "act 0 = 0", "act 7 = 1", "acted 5 = 0", "said 60 = 0", "place 1 0 0 = 1",
            "read 1 0 nan = 1", "wind 0 false = 1", "bound 0 0 = 1", "run 1 = 2", "of 0 0 = 0", "finding 0 0 = NONE",
            "count 4 = 0"};
        for (String call : calls) {
            Sentences.furnished("38: the latest call that was not why(): 0, if it was not refused", "row 10 doubles 1",
                "clear 24 = UNKNOWN", call, "why = 0");
        }
        Sentences.furnished("38: 0, if it was not refused (reset)", "run 1 = 2", "clear 24 = UNKNOWN", "reset 0 = 1",
            "why = 0");
        Sentences.sentence("38: why() stays behind why()", "clear 24 = UNKNOWN", "why = -2 UNKNOWN", "why = -2 UNKNOWN",
            "count 6 = OUTSIDE", "why = -3 OUTSIDE", "clear 5 = 0", "why = 0");
        Sentences.sentence("38: STATE, ROOM, a FAILURE", "reset 0 = STATE", "why = -4 STATE", "60 x part 1 CUPS",
            "part 1 CUPS = ROOM", "why = -5 ROOM", "row 0 ints -1 = SIZE", "why = -13 SIZE", "step 0 FAIL 7",
            "act 0 = HOLD", "why = -17 HOLD");
    }

    private static void count() {
        Sentences.atLeast("39: 0 turbines .. 5 the TRACE's BODIES; OUTSIDE", 0, "count #", "2", "OUTSIDE");
        Sentences.atMost("39: 0 turbines .. 5 the TRACE's BODIES; OUTSIDE", 5, "count #", "3", "OUTSIDE");
        Sentences.sentence("39: 2 CASES that are not EMPTY", "count 2 = 0", "row 0 ints 0", "count 2 = 1", "set 0 23",
            "count 2 = 2", "clear 0", "count 2 = 1", "row 23 ints 1", "count 2 = 1", "clear 23", "count 2 = 0");
        String[] rows = new String[0];
        for (int c = 0; c < 24; c++) {
            rows = Sentences.joined(rows, "grid " + c + " 0 0", "count 2 = " + (c + 1));
        }
        Sentences.sentence("39: 2 all CASES", rows);
        Sentences.sentence("39: 1 PARTS that came (those that are gone, too)", "count 1 = 0", "part 0 CUPS", "clear 0",
            "count 1 = 1", "part 0 7 = OUTSIDE", "count 1 = 1", "59 x part 0 CUPS", "count 1 = 60",
            "part 0 CUPS = ROOM", "count 1 = 60");
        Sentences.sentence("39: 3 STEPS of the farm", "count 3 = 0", "run 40", "run 1", "run 41 = OUTSIDE",
            "count 3 = 41");
    }

    private static void turbinesAtFirst() {
        for (int t = 0; t < 6; t++) {
            Sentences.of("Terms: PITCH (90.0), TORQUE, TURNS, ENERGY, BOUND (1000.0), STATE", 6,
                "of " + t + " 0 = WAITING", "of " + t + " 1 = 90.0d", "of " + t + " 2 = 0.0d", "of " + t + " 3 = 0.0d",
                "of " + t + " 4 = 0.0d", "of " + t + " 5 = 1000.0d", "of " + t + " 6 = 0", "of " + t + " 7 = 0",
                "of " + t + " 8 = NONE", "of " + t + " 9 = NONE", "of " + t + " 10 = NONE", "of " + t + " 11 = NONE",
                "of " + t + " 12 = NONE");
        }
        Sentences.sentence("Terms: a READING (no number at first)", "fit 0 0 CUPS", "fit 0 1 VANE", "fit 0 2 SONIC",
            "run 1 = 0", "of 0 6 = nan", "of 0 0 = WAITING");
        Sentences.sentence("Terms: COLD or not (not at first)", "fit 0 0 CUPS", "read 0 0 2.0d", "run 3",
            "of 0 6 = 2.0d");
    }

    /** All three slots with sensors, which read so: the vote. */
    private static void voteIs(String told, String a, String b, String c, String vote) {
        Sentences.sentence(told, "fit 0 0 CUPS", "fit 0 1 VANE", "fit 0 2 SONIC", "read 0 0 " + a, "read 0 1 " + b,
            "read 0 2 " + c, "run 1", "of 0 6 = " + vote, "of 0 7 = " + (vote.equals("nan") ? "0.0d" : vote));
    }

    private static void voteOfReadings() {
        String[][] three = {{"1.0d", "2.0d", "3.0d"}, {"1.0d", "3.0d", "2.0d"}, {"2.0d", "1.0d", "3.0d"}, {"2.0d",
            "3.0d", "1.0d"}, {"3.0d", "1.0d", "2.0d"}, {"3.0d", "2.0d", "1.0d"}};
        for (String[] r : three) {
            voteIs("VOTE: the middle one", r[0], r[1], r[2], "2.0d");
            voteIs("VOTE: the middle one, below 0", "-" + r[0], "-" + r[1], "-" + r[2], "-2.0d");
        }
        voteIs("VOTE: of two the lesser", "1.0d", "2.0d", "nan", "1.0d");
        voteIs("VOTE: of two the lesser", "2.0d", "nan", "1.0d", "1.0d");
        voteIs("VOTE: of two the lesser, below 0", "nan", "-1.0d", "-2.0d", "-2.0d");
        voteIs("VOTE: of one it", "nan", "nan", "2.0d", "2.0d");
        voteIs("VOTE: none: no number", "nan", "nan", "nan", "nan");
        Sentences.sentence("VOTE: of SLOTS that are not bare", "read 0 0 1.0d", "read 0 1 2.0d", "read 0 2 3.0d",
            "run 1", "of 0 6 = nan", "fit 0 2 CUPS", "run 1", "of 0 6 = 3.0d", "fit 0 1 CUPS", "run 1", "of 0 6 = 2.0d",
            "fit 0 0 CUPS", "run 1", "of 0 6 = 2.0d", "step 0 STRIP 0 1", "act 0 = 0", "run 1", "of 0 6 = 1.0d");
        Sentences.sentence("VOTE: a PART in another SLOT is no SENSOR", "fit 0 3 DRIVE", "fit 0 4 BLADE",
            "read 0 0 1.0d", "run 1", "of 0 6 = nan");
        Sentences.sentence("VOTE: edges of READINGS", "fit 0 0 CUPS", "fit 0 1 VANE", "fit 0 2 SONIC",
            "read 0 0 1000.0d", "read 0 1 -1000.0d", "read 0 2 -4.9E-324d", "run 1", "of 0 6 = -4.9E-324d");
    }

    private static void voteOfZeros() {
        voteIs("VOTE: -0.0 is less than 0.0", "0.0d", "-0.0d", "nan", "-0.0d");
        voteIs("VOTE: -0.0 is less than 0.0", "-0.0d", "0.0d", "nan", "-0.0d");
        voteIs("VOTE: -0.0 is less than 0.0", "0.0d", "-0.0d", "0.0d", "0.0d");
        voteIs("VOTE: -0.0 is less than 0.0", "-0.0d", "-0.0d", "0.0d", "-0.0d");
        voteIs("VOTE: -0.0 is less than 0.0", "-0.0d", "4.9E-324d", "0.0d", "0.0d");
        voteIs("VOTE: -0.0 is less than 0.0", "-0.0d", "-4.9E-324d", "0.0d", "-0.0d");
    }

    private static void coldFromTheThird() {
        Sentences.sentence("COLD: or there were not two (since begun)", "wind 0 true", "fit 0 0 CUPS", "read 0 0 2.0d",
            "run 1", "of 0 6 = 2.0d", "run 1", "of 0 6 = 2.0d", "run 1", "of 0 6 = nan", "run 1", "of 0 6 = nan");
        Sentences.sentence("COLD: within one run, too", "wind 0 true", "fit 0 0 CUPS", "read 0 0 2.0d", "run 2",
            "of 0 6 = 2.0d", "run 2", "of 0 6 = nan");
        Sentences.sentence("COLD: STEPS ahead of the cold count", "fit 0 0 CUPS", "read 0 0 2.0d", "run 2",
            "wind 0 true", "run 1", "of 0 6 = nan", "wind 0 false", "run 1", "of 0 6 = 2.0d");
        Sentences.sentence("COLD: one STEP ahead of the cold", "fit 0 0 CUPS", "read 0 0 2.0d", "run 1", "wind 0 true",
            "run 1", "of 0 6 = 2.0d", "run 1", "of 0 6 = nan");
        Sentences.sentence("COLD: 0.0 (what was there ahead of the first STEP is no READING)", "wind 0 true",
            "fit 0 0 CUPS", "read 0 0 0.0d", "run 1", "of 0 6 = 0.0d", "run 1", "of 0 6 = 0.0d", "run 1",
            "of 0 6 = nan");
        Sentences.sentence("COLD: each SENSOR by itself", "wind 0 true", "fit 0 0 CUPS", "fit 0 1 VANE",
            "fit 0 2 SONIC", "read 0 0 1.0d", "read 0 1 2.0d", "read 0 2 3.0d", "run 2", "of 0 6 = 2.0d",
            "read 0 0 0.5d", "run 1", "of 0 6 = 0.5d", "read 0 2 3.5d", "run 1", "of 0 6 = 0.5d", "run 1",
            "of 0 6 = 3.5d", "run 1", "of 0 6 = nan");
    }

    private static void coldOtherBits() {
        String[] frozen = {"wind 0 true", "fit 0 0 CUPS", "read 0 0 2.0d", "run 3", "of 0 6 = nan"};
        Sentences.sentence("COLD: had other BITS in both of the two STEPS before", Sentences.joined(frozen,
            "read 0 0 3.0d", "run 1", "of 0 6 = 3.0d"));
        Sentences.sentence("COLD: had other BITS in the earlier of the two", Sentences.joined(frozen, "read 0 0 3.0d",
            "run 1", "run 1", "of 0 6 = 3.0d", "run 1", "of 0 6 = nan"));
        Sentences.sentence("COLD: had other BITS in the later of the two", Sentences.joined(frozen, "read 0 0 3.0d",
            "run 1", "read 0 0 2.0d", "run 1", "of 0 6 = 2.0d", "run 1", "of 0 6 = 2.0d", "run 1", "of 0 6 = nan"));
        Sentences.sentence("COLD: other BITS three STEPS before do not count", Sentences.joined(frozen, "read 0 0 3.0d",
            "run 1", "read 0 0 2.0d", "run 3", "of 0 6 = nan"));
        Sentences.sentence("COLD: a READING between STEPS does not count", Sentences.joined(frozen, "read 0 0 3.0d",
            "read 0 0 2.0d", "run 1", "of 0 6 = nan"));
        Sentences.sentence("COLD: -0.0 has other BITS than 0.0", Sentences.joined(frozen, "read 0 0 0.0d", "run 3",
            "of 0 6 = nan", "read 0 0 -0.0d", "run 1", "of 0 6 = -0.0d"));
        Sentences.sentence("COLD: no number has other BITS", Sentences.joined(frozen, "read 0 0 nan", "run 1",
            "of 0 6 = nan", "read 0 0 2.0d", "run 1", "of 0 6 = 2.0d", "run 1", "of 0 6 = 2.0d", "run 1",
            "of 0 6 = nan"));
        Sentences.sentence("COLD: the next double has other BITS", Sentences.joined(frozen, "read 0 0 up(2.0)", "run 1",
            "of 0 6 = up(2.0)"));
    }

    private static void coldOfBareAndFailed() {
        Sentences.sentence("COLD: of a bare SLOT, too (the same in both)", "wind 0 true", "read 0 1 2.0d", "run 2",
            "fit 0 1 CUPS", "run 1", "of 0 6 = nan");
        Sentences.sentence("COLD: of a bare SLOT, too (other in one)", "wind 0 true", "read 0 1 3.0d", "run 1",
            "read 0 1 2.0d", "run 1", "fit 0 1 CUPS", "run 1", "of 0 6 = 2.0d", "run 1", "of 0 6 = nan");
        String[] failed = {"fit 0 0 CUPS", "read 0 0 9.0d", "run 1 = 1", "of 0 0 = FAILED", "wind 0 true"};
        Sentences.sentence("COLD: of a FAILED turbine, too (the same in both)", Sentences.joined(failed,
            "read 0 0 2.0d", "run 2", "reset 0", "run 1", "of 0 6 = nan"));
        Sentences.sentence("COLD: of a FAILED turbine, too (other in one)", Sentences.joined(failed, "read 0 0 2.0d",
            "run 1", "reset 0", "run 1", "of 0 6 = 2.0d"));
    }

    private static void waitingStarts() {
        String told = "STATE: WAITING: not BLIND, WIND 4.0 or more, BOUND above 0.0: STARTING";
        Sentences.sentence(told, Sentences.joined(WHOLE, "read 0 0 4.0d", "run 1", "of 0 0 = STARTING",
            "of 0 1 = 84.0d"));
        Sentences.sentence(told + " (below 4.0)", Sentences.joined(WHOLE, "read 0 0 down(4.0)", "run 40",
            "of 0 0 = WAITING", "of 0 1 = 90.0d"));
        Sentences.sentence(told + " (BLIND)", Sentences.joined(WHOLE, "run 40", "of 0 0 = WAITING"));
        Sentences.sentence(told + " (BOUND 0.0)", Sentences.joined(WHOLE, "read 0 0 4.0d", "bound 0 0.0d", "run 40",
            "of 0 0 = WAITING"));
        Sentences.sentence(told + " (BOUND -0.0)", Sentences.joined(WHOLE, "read 0 0 4.0d", "bound 0 -0.0d", "run 40",
            "of 0 0 = WAITING"));
        Sentences.sentence(told + " (the least BOUND)", Sentences.joined(WHOLE, "read 0 0 4.0d", "bound 0 4.9E-324d",
            "run 1", "of 0 0 = STARTING"));
        Sentences.sentence("STATE: STARTING stays, with little WIND, without BOUND", Sentences.joined(WHOLE,
            "read 0 0 4.0d", "run 1", "read 0 0 -5.0d", "bound 0 0.0d", "run 1", "of 0 0 = STARTING", "run 30",
            "of 0 0 = STARTING", "of 0 1 = 20.0d"));
    }

    private static void startingMakes() {
        String told = "STATE: STARTING: TURNS 6.0 or more: MAKING";
        Sentences.sentence(told, Sentences.joined(WHOLE, "read 0 0 900.0000000000001d", "run 1", "of 0 3 = 6.0d",
            "of 0 0 = STARTING", "read 0 0 0.0d", "run 1", "of 0 0 = MAKING"));
        Sentences.sentence(told + " (below)", Sentences.joined(WHOLE, "read 0 0 900.0d", "run 1", "of 0 3 = down(6.0)",
            "of 0 0 = STARTING", "read 0 0 0.0d", "run 1", "of 0 0 = STARTING"));
        Sentences.sentence("STATE: MAKING stays below 6.0", Sentences.joined(MAKING, "read 0 0 -30.0d", "run 1",
            "of 0 0 = MAKING", "run 3", "of 0 3 = 0.0d", "of 0 0 = MAKING"));
    }

    private static void above16Stops() {
        String[] started = Sentences.joined(WHOLE, "read 0 0 450.0d", "run 1", "of 0 0 = STARTING");
        String told = "STATE: STARTING, MAKING: TURNS above 16.0: STOPPING";
        Sentences.sentence(told + " (STARTING, 16.0: MAKING)", Sentences.joined(started, "read 0 0 977.2500000000002d",
            "run 1", "of 0 3 = 16.0d", "of 0 0 = STARTING", "run 1", "of 0 0 = MAKING"));
        Sentences.sentence(told + " (STARTING, above)", Sentences.joined(started, "read 0 0 977.2500000000005d",
            "run 1", "of 0 3 = up(16.0)", "of 0 0 = STARTING", "run 1", "of 0 0 = STOPPING"));
        Sentences.sentence(told + " (MAKING, 16.0)", Sentences.joined(MAKING, "read 0 0 81.90468290353357d", "run 1",
            "of 0 3 = 16.0d", "read 0 0 0.0d", "run 1", "of 0 0 = MAKING"));
        Sentences.sentence(told + " (MAKING, above)", Sentences.joined(MAKING, "read 0 0 81.90468290353361d", "run 1",
            "of 0 3 = up(16.0)", "of 0 0 = MAKING", "read 0 0 0.0d", "run 1", "of 0 0 = STOPPING"));
    }

    private static void blindStops() {
        Sentences.sentence("STATE: STARTING: BLIND: STOPPING", Sentences.joined(WHOLE, "read 0 0 9.0d", "run 1",
            "read 0 0 nan", "run 1", "of 0 0 = STOPPING"));
        Sentences.sentence("STATE: MAKING: BLIND: STOPPING", Sentences.joined(MAKING, "read 0 0 nan", "run 1",
            "of 0 0 = STOPPING", "of 0 6 = nan", "of 0 7 = 0.0d"));
        Sentences.sentence("STATE: the first that fits: BLIND ahead of TURNS 6.0", Sentences.joined(WHOLE,
            "read 0 0 900.0000000000001d", "run 1", "read 0 0 nan", "run 1", "of 0 0 = STOPPING"));
        Sentences.sentence("STATE: WIND below 0 is not BLIND", Sentences.joined(MAKING, "read 0 0 -1000.0d", "run 1",
            "of 0 0 = MAKING"));
        Sentences.sentence("STATE: STOPPING goes on, with WIND", Sentences.joined(MAKING, "read 0 0 nan", "run 1",
            "read 0 0 9.0d", "run 1", "of 0 0 = STOPPING"));
    }

    private static void stoppingWaits() {
        String told = "STATE: STOPPING: TURNS below 0.5: WAITING";
        Sentences.sentence(told + " (0.5)", Sentences.joined(WHOLE, "read 0 0 75.75757575757576d", "run 1",
            "read 0 0 nan", "run 1", "of 0 0 = STOPPING", "of 0 3 = 0.5d", "run 1", "of 0 0 = STOPPING", "run 1",
            "of 0 0 = WAITING"));
        Sentences.sentence(told, Sentences.joined(WHOLE, "read 0 0 75.75757575757575d", "run 1", "read 0 0 nan",
            "run 1", "of 0 0 = STOPPING", "of 0 3 = down(0.5)", "run 1", "of 0 0 = WAITING"));
        Sentences.sentence("STATE: one a STEP (STOPPING, WAITING, STARTING)", Sentences.joined(WHOLE, "read 0 0 75.0d",
            "run 1", "read 0 0 nan", "run 1", "read 0 0 9.0d", "run 1", "of 0 0 = WAITING", "run 1",
            "of 0 0 = STARTING"));
    }

    private static void failedStays() {
        String[] failed = Sentences.joined(MAKING, "step 0 HOLDING 0 1", "step 1 STRIP 0 4", "act 0 = 0", "run 1 = 1",
            "of 0 0 = FAILED");
        Sentences.sentence("STATE: FAILED stays", Sentences.joined(failed, "run 40 = 0", "of 0 0 = FAILED",
            "read 0 0 nan", "run 40 = 0", "of 0 0 = FAILED"));
        String[] halved = Sentences.joined(WHOLE, "read 0 0 450.0d", "run 1", "read 0 0 977.2500000000002d", "run 1",
            "of 0 3 = 16.0d", "step 0 HOLDING 0 1", "step 1 STRIP 0 3", "act 0 = 0", "run 1 = 1", "of 0 3 = 16.0d",
            "of 0 1 = 78.0d", "run 1 = 0", "of 0 3 = 8.0d", "run 4 = 0", "of 0 3 = 0.5d", "of 0 1 = 78.0d",
            "of 0 2 = 0.0d", "of 0 4 = 0.0d");
        Sentences.sentence("FAILED at the beginning: TURNS = TURNS * 0.5, and that is all", halved);
        // From 2^-1 on, 1073 times half, is the least double of all.
        Sentences.sentence("FAILED: TURNS down to the least double, then 0.0", Sentences.joined(halved, "26 x run 40",
            "run 33 = 0", "of 0 3 = 4.9E-324d", "run 1 = 0", "of 0 3 = 0.0d"));
    }

    private static void pitchByRates() {
        Sentences.sentence("PITCH: goal 20.0 STARTING, rate 6.0", Sentences.joined(WHOLE, "read 0 0 4.0d", "run 1",
            "of 0 1 = 84.0d", "run 10", "of 0 1 = 24.0d", "run 1", "of 0 1 = 20.0d", "run 1", "of 0 1 = 20.0d",
            "of 0 0 = STARTING"));
        Sentences.sentence("PITCH: goal 90.0, rate 12.0 STOPPING", Sentences.joined(MAKING, "read 0 0 nan", "run 1",
            "of 0 1 = 12.0d", "run 6", "of 0 1 = 84.0d", "run 1", "of 0 1 = 90.0d", "run 1", "of 0 1 = 90.0d",
            "of 0 0 = STOPPING"));
        Sentences.sentence("PITCH: goal 90.0 WAITING, rate 6.0", Sentences.joined(WHOLE, "read 0 0 4.0d", "run 5",
            "of 0 1 = 60.0d", "read 0 0 nan", "run 1", "of 0 0 = STOPPING", "of 0 1 = 72.0d", "run 1",
            "of 0 0 = WAITING", "of 0 1 = 78.0d", "run 1", "of 0 1 = 84.0d", "run 1", "of 0 1 = 90.0d", "run 1",
            "of 0 1 = 90.0d"));
        Sentences.sentence("PITCH: not FAILED", Sentences.joined(WHOLE, "read 0 0 4.0d", "run 5", "step 0 HOLDING 0 1",
            "step 1 STRIP 0 3", "act 0 = 0", "run 1 = 1", "of 0 1 = 60.0d", "run 9 = 0", "of 0 1 = 60.0d"));
    }

    private static void pitchOfMaking() {
        Sentences.sentence("PITCH: MAKING 0.0 up to TURNS 10.0", Sentences.joined(MAKING,
            "read 0 0 21.904682903533562d", "run 1", "of 0 3 = 10.0d", "forget", "run 1", "of 0 1 = 0.0d",
            "traced 0 = 31", "traced 1 = NONE"));
        Sentences.sentence("PITCH: MAKING (TURNS - 10.0) * 8.0 above", Sentences.joined(MAKING,
            "read 0 0 21.904682903533583d", "run 1", "of 0 3 = up(10.0)", "forget", "run 1",
            "of 0 1 = 1.4210854715202004E-14d", "traced 0 = 32", "traced 1 = 14", "traced 2 = 31", "traced 3 = NONE"));
        Sentences.sentence("PITCH: MAKING, rate 6.0", Sentences.joined(MAKING, "read 0 0 81.90468290353357d", "run 1",
            "of 0 3 = 16.0d", "run 1", "of 0 1 = 6.0d"));
    }

    /** Turbine 0 with a drive of a kind that case 1 holds, too, and a blade that case 3 holds; the drive's serial is 1. */
    private static String[] held(String drive) {
        return new String[] {"fit 0 0 CUPS", "part 1 " + drive, "set 1 2", "part 3 BLADE", "set 3 4", "drop 8",
            "drop 9", "step 8 TAKE 4", "step 8 TAKE 2", "step 8 HOLDING 0 9", "step 9 FIT 0 3", "step 9 FIT 0 4",
            "act 8 = 0", "of 0 11 = 1", "of 0 12 = 2"};
    }

    private static void drivesAreWorn() {
        Sentences.sentence("PITCH: WEARS by the LOAD (int) Math.abs(by)", Sentences.joined(held("PITCH"),
            "read 0 0 4.0d", "run 1", "told 1 WEAR = 6", "run 10", "told 1 WEAR = 66", "run 1", "told 1 WEAR = 70",
            "read 0 0 nan", "run 1", "of 0 0 = STOPPING", "told 1 WEAR = 83", "of 0 1 = 32.0d"));
        Sentences.sentence("PITCH: if by is not 0.0", Sentences.joined(held("PITCH"), "read 0 0 4.0d", "run 12",
            "of 0 1 = 20.0d", "told 1 WEAR = 70", "forget", "run 1", "told 1 WEAR = 70", "count 5 = 0"));
        Sentences.sentence("PITCH: a DRIVE's WEARS: LOAD * LOAD / LIMIT, cut", Sentences.joined(held("DRIVE"),
            "read 0 0 4.0d", "run 5", "told 1 WEAR = 0", "read 0 0 nan", "run 1", "told 1 WEAR = 2", "of 0 1 = 72.0d"));
        Sentences.sentence("PITCH: nothing WEARS, WAITING at 90.0", Sentences.joined(held("PITCH"), "run 40 = 0",
            "told 1 WEAR = 0", "count 5 = 0"));
    }

    private static void torque() {
        String[] six = Sentences.joined(WHOLE, "read 0 0 900.0000000000001d", "run 1", "of 0 3 = 6.0d",
            "of 0 2 = 0.0d");
        Sentences.sentence("TORQUE: MAKING, by 0.5 at most", Sentences.joined(six, "run 1", "of 0 0 = MAKING",
            "of 0 2 = 0.5d"));
        Sentences.sentence("TORQUE: else TORQUE / 2.0", Sentences.joined(six, "read 0 0 0.0d", "run 1", "of 0 2 = 0.5d",
            "read 0 0 nan", "run 1", "of 0 0 = STOPPING", "of 0 2 = 0.25d", "run 1", "of 0 2 = 0.125d"));
        Sentences.sentence("TORQUE: MAKING, by -0.5 at least; to TURNS * 0.5; not below 0.0", Sentences.joined(six,
            "read 0 0 0.0d", "run 4", "of 0 0 = MAKING", "of 0 2 = 2.0d", "read 0 0 -1000.0d", "run 1", "of 0 3 = 0.0d",
            "of 0 2 = 2.5d", "run 1", "of 0 2 = 2.0d", "run 3", "of 0 2 = 0.5d", "run 1", "of 0 2 = 0.0d", "run 1",
            "of 0 2 = 0.0d", "of 0 0 = MAKING"));
    }

    private static void turns() {
        Sentences.sentence("TURNS: Math.max(0.0, ..)", Sentences.joined(WHOLE, "read 0 0 4.0d", "run 1",
            "read 0 0 -1000.0d", "run 1", "of 0 3 = 0.0d", "run 1", "of 0 3 = 0.0d", "of 0 0 = STARTING"));
        Sentences.sentence("TURNS: of one that waits at PITCH 90.0: 0.0", Sentences.joined(WHOLE, "read 0 0 -1000.0d",
            "run 1", "of 0 3 = 0.0d", "read 0 0 3.0d", "run 1", "of 0 3 = 0.0d"));
    }

    private static void boundCuts() {
        String[] before = Sentences.joined(WHOLE, "read 0 0 7.0d", "run 24 = 0", "of 0 0 = MAKING");
        Sentences.sentence("If TORQUE * TURNS is above BOUND (the same)", Sentences.joined(before,
            "bound 0 32.34827480979619d", "run 1", "of 0 3 = 9.24236423137034d", "of 0 2 = 3.5d"));
        Sentences.sentence("If TORQUE * TURNS is above BOUND: TORQUE = BOUND / TURNS", Sentences.joined(before,
            "bound 0 down(32.34827480979619)", "run 1", "of 0 3 = 9.24236423137034d", "of 0 2 = 3.499999999999999d"));
        Sentences.sentence("BOUND endless cuts nothing", Sentences.joined(before, "bound 0 inf", "run 1",
            "of 0 2 = 3.5d"));
        Sentences.sentence("BOUND 0.0 cuts all", Sentences.joined(before, "run 1", "bound 0 0.0d", "run 1",
            "of 0 0 = MAKING", "of 0 2 = 0.0d"));
        Sentences.sentence("BOUND -0.0 cuts all, with its sign", Sentences.joined(before, "run 1", "bound 0 -0.0d",
            "run 1", "of 0 0 = MAKING", "of 0 2 = -0.0d"));
    }

    private static void bladesAreWorn() {
        String[] making = Sentences.joined(held("DRIVE"), "read 0 0 900.0000000000001d", "run 1", "of 0 3 = 6.0d",
            "told 3 WEAR = 0", "read 0 0 0.0d", "run 1", "of 0 0 = MAKING", "told 3 WEAR = 0");
        String[][] winds = {{"1.0d", "1"}, {"down(1.0)", "0"}, {"11.9d", "11"}, {"-0.9d", "0"}, {"-1.0d", "-1"},
            {"-700.9d", "-700"}, {"-1000.0d", "-1000"}, {"1000.0d", "1000"}, {"-0.0d", "0"}};
        for (String[] pair : winds) {
            Sentences.sentence("MAKING: SLOT 4 WEARS by the LOAD (int) WIND (below 0 as it is)",
                Sentences.joined(making, "read 0 0 " + pair[0], "run 1", "of 0 0 = MAKING",
                "told 3 WEAR = " + pair[1]));
        }
        Sentences.sentence("SLOT 4 WEARS: MAKING alone", Sentences.joined(held("DRIVE"), "read 0 0 9.0d", "run 3",
            "of 0 0 = STARTING", "told 3 WEAR = 0", "read 0 0 nan", "run 2", "told 3 WEAR = 0"));
    }

    private static void drivesFail() {
        Sentences.sentence("NOTHING: SLOT 3 is bare; PITCH, TURNS stay", "fit 0 0 CUPS", "fit 0 4 BLADE",
            "read 0 0 9.0d", "run 1 = 1", "of 0 0 = FAILED", "of 0 1 = 90.0d", "of 0 3 = 0.0d", "finding 0 0 = 0",
            "finding 0 1 = 3", "finding 0 2 = 1", "finding 0 3 = 1", "of 0 7 = 9.0d");
        Sentences.sentence("NOTHING: not, if by is 0.0 (WAITING)", "fit 0 0 CUPS", "read 0 0 3.0d", "run 40 = 0",
            "of 0 0 = WAITING");
        String[] ten = Sentences.joined(MAKING, "read 0 0 21.904682903533562d", "run 1", "of 0 3 = 10.0d",
            "step 0 HOLDING 0 1", "step 1 STRIP 0 3", "act 0 = 0");
        Sentences.sentence("NOTHING: not, if by is 0.0 (MAKING)", Sentences.joined(ten, "run 1 = 0", "of 0 0 = MAKING",
            "of 0 1 = 0.0d"));
        Sentences.sentence("A FAILURE ends the turbine's STEP there, it is FAILED, TORQUE 0.0", Sentences.joined(ten,
            "read 0 0 nan", "run 1 = 1", "of 0 0 = FAILED", "of 0 1 = 0.0d", "of 0 2 = 0.0d", "of 0 3 = 10.0d",
            "finding 0 1 = 3", "finding 0 2 = 1", "finding 0 3 = 82", "of 0 6 = nan", "of 0 7 = 0.0d"));
        Sentences.sentence("ZERO: a PITCH with SERIAL 0", "fit 0 3 PITCH", "fit 0 0 CUPS", "of 0 11 = 0",
            "read 0 0 9.0d", "run 1 = 1", "of 0 0 = FAILED", "of 0 1 = 90.0d", "finding 0 1 = 3", "finding 0 2 = 6",
            "traced 0 = 33", "traced 3 = 14", "traced 4 = NONE");
    }

    private static void bladesFail() {
        String[] six = {"fit 0 0 CUPS", "fit 0 3 DRIVE", "read 0 0 900.0000000000001d", "run 1 = 0", "of 0 3 = 6.0d",
            "of 0 0 = STARTING"};
        Sentences.sentence("NOTHING: SLOT 4 is bare (not STARTING, but MAKING)", Sentences.joined(six, "run 1 = 1",
            "of 0 0 = FAILED", "finding 0 0 = 0", "finding 0 1 = 4", "finding 0 2 = 1", "finding 0 3 = 2",
            "of 0 2 = 0.0d"));
        // TURNS go from 6.0 by 0.1 * (0.0 - 0.5 - 0.6); PITCH by 6.0; ENERGY by TORQUE * TURNS: all ahead of the failure.
        double turns = Math.max(0.0, 6.0 + 0.1 * (0.0 * (1.0 - 78.0 / 90.0) - 0.5 - 0.1 * 6.0));
        Sentences.sentence("A FAILURE ends the turbine's STEP there: what was ahead of it stands", Sentences.joined(six,
            "read 0 0 0.0d", "run 1 = 1", "of 0 1 = 78.0d", "of 0 2 = 0.0d", "of 0 3 = " + turns + "d",
            "of 0 4 = " + (0.5 * turns) + "d", "traced 4 = NONE", "count 5 = 4"));
    }

    private static void findingsInOrder() {
        Sentences.of("A STEP goes through the turbines by LINE, of like ones by number", 4, "fit 0 0 CUPS",
            "fit 1 0 CUPS", "fit 2 0 CUPS", "fit 3 0 CUPS", "read 0 0 9.0d", "read 1 0 9.0d", "read 2 0 9.0d",
            "read 3 0 9.0d", "place 0 5 0", "place 1 -3 9", "place 2 5 -7", "place 3 0 0", "run 3 = 4",
            "finding 0 0 = 1", "finding 1 0 = 3", "finding 2 0 = 0", "finding 3 0 = 2", "finding 3 3 = 1",
            "finding 4 0 = NONE");
        int[][] ways = {{1, 0}, {1, 1}, {0, 1}, {-1, 1}, {-1, 0}, {-1, -1}, {0, -1}, {1, -1}};
        for (int k = 0; k < 8; k++) {
            int x = ways[k][0] * 100;
            int y = ways[k][1] * 100;
            Sentences.of("DIRECTION (dx, dy); THE LINE of a turbine is x dx + y dy", 3, "wind " + k + " false",
                "fit 0 0 CUPS", "fit 1 0 CUPS", "fit 2 0 CUPS", "read 0 0 9.0d", "read 1 0 9.0d", "read 2 0 9.0d",
                "place 0 " + x + " " + y, "place 2 " + -x + " " + -y, "run 1 = 3", "finding 0 0 = 2", "finding 1 0 = 1",
                "finding 2 0 = 0");
        }
    }

    private static void findingsKept() {
        String[] rows = new String[0];
        for (int t = 0; t < 6; t++) {
            rows = Sentences.joined(rows, "fit " + t + " 0 CUPS", "read " + t + " 0 9.0d");
        }
        for (int i = 1; i <= 6; i++) {
            rows = Sentences.joined(rows, "run 1 = 6", "count 4 = " + 6 * i, "reset 0", "reset 1", "reset 2", "reset 3",
                "reset 4", "reset 5");
        }
        Sentences.of("a FINDING (40 are kept); also those that were not kept", 6, Sentences.joined(rows,
            "finding 36 0 = NONE", "run 1 = 6", "count 4 = 40", "finding 36 0 = 0", "finding 39 0 = 3",
            "finding 39 1 = 3", "finding 39 2 = 1", "finding 39 3 = 7", "finding 40 0 = NONE", "finding 0 3 = 1",
            "reset 5", "run 1 = 1", "count 4 = 40", "finding 39 0 = 3", "finding 40 3 = NONE"));
    }

    /** Turbines of which the first so many make; then they are placed, read 3.0, and go one step. */
    private static String[] wakes(int direction, int making, int[]... places) {
        String[] rows = {"wind " + direction + " false"};
        for (int t = 0; t < places.length; t++) {
            rows = Sentences.joined(rows, "fit " + t + " 0 CUPS");
            if (t < making) {
                rows = Sentences.joined(rows, "fit " + t + " 3 DRIVE", "fit " + t + " 4 BLADE",
                    "read " + t + " 0 12.0d");
            }
        }
        rows = Sentences.joined(rows, "run 40 = 0");
        for (int t = 0; t < places.length; t++) {
            rows = Sentences.joined(rows, "of " + t + " 0 = " + (t < making ? "MAKING" : "WAITING"),
                "place " + t + " " + places[t][0] + " " + places[t][1], "read " + t + " 0 3.0d");
        }
        return Sentences.joined(rows, "run 1 = 0");
    }

    /** What is left of a wind of 3.0 behind turbines so far ahead, in the order in which they are gone through. */
    private static String left(int... lines) {
        double sum = 0.0;
        for (int p : lines) {
            double e = 1.0 + p * 0.1;
            double d = 0.6 / (e * e);
            sum = sum + d * d;
        }
        double wake = Math.sqrt(sum);
        return 3.0 * (1.0 - (wake > 1.0 ? 1.0 : wake)) + "d";
    }

    private static void wakesAcross() {
        String told = "WIND: both CROSSES not more than 3 + p / 4 (cut) apart";
        int[][] edges = {{1, 3}, {3, 3}, {4, 4}, {7, 4}, {8, 5}, {199, 52}, {200, 53}};
        for (int[] edge : edges) {
            int p = edge[0];
            int x = p > 100 ? p - 100 : p;
            int from = x - p;
            for (int side = -1; side <= 1; side += 2) {
                int y = side * edge[1];
                Sentences.sentence(told, Sentences.joined(wakes(0, 1, new int[] {from, 0}, new int[] {x, y}),
                    "of 1 6 = 3.0d", "of 1 7 = " + left(p)));
                Sentences.sentence(told + " (one more)", Sentences.joined(wakes(0, 1, new int[] {from, 0}, new int[] {x,
                    y + side}), "of 1 7 = 3.0d"));
            }
        }
        Sentences.sentence("its CROSS x dy - y dx (DIRECTION 1)", Sentences.joined(wakes(1, 1, new int[] {0, 0},
            new int[] {2, -1}), "of 1 7 = " + left(1)));
        Sentences.sentence("its CROSS x dy - y dx (DIRECTION 1, one more)", Sentences.joined(wakes(1, 1, new int[] {0,
            0}, new int[] {3, -1}), "of 1 7 = 3.0d"));
        Sentences.sentence("its CROSS x dy - y dx (DIRECTION 3)", Sentences.joined(wakes(3, 1, new int[] {0, 0},
            new int[] {1, 2}), "of 1 7 = " + left(1)));
        Sentences.sentence("its CROSS x dy - y dx (DIRECTION 3, one more)", Sentences.joined(wakes(3, 1, new int[] {0,
            0}, new int[] {2, 3}), "of 1 7 = 3.0d"));
    }

    /** Places off the axes, so that each of dx and dy tells in both LINE and CROSS. */
    private static void wakesAslant() {
        int[][] ways = {{1, 0}, {1, 1}, {0, 1}, {-1, 1}, {-1, 0}, {-1, -1}, {0, -1}, {1, -1}};
        for (int k = 0; k < 8; k++) {
            int dx = ways[k][0];
            int dy = ways[k][1];
            int[] first = {7, -5};
            int[] second = {7 + 4 * dx - 2 * dy, -5 + 4 * dy + 2 * dx};
            int[] apart = {7 + 2 * dx - 4 * dy, -5 + 2 * dy + 4 * dx};
            int size = dx * dx + dy * dy;
            Sentences.sentence("LINE is x dx + y dy, CROSS x dy - y dx", Sentences.joined(wakes(k, 1, first, second),
                "of 1 7 = " + left(4 * size)));
            Sentences.sentence("LINE is x dx + y dy, CROSS x dy - y dx (apart)", Sentences.joined(wakes(k, 1, first,
                apart), "of 1 7 = 3.0d"));
        }
    }

    private static void wakesAlong() {
        String told = "WIND: with p the LINE less its LINE, above 0";
        Sentences.sentence(told, Sentences.joined(wakes(0, 1, new int[] {0, 0}, new int[] {1, 0}),
            "of 1 7 = " + left(1), "of 0 7 = 3.0d"));
        Sentences.sentence(told + " (0)", Sentences.joined(wakes(0, 1, new int[] {0, 0}, new int[] {0, 1}),
            "of 1 7 = 3.0d"));
        Sentences.sentence(told + " (below)", Sentences.joined(wakes(0, 1, new int[] {0, 0}, new int[] {-1, 0}),
            "of 1 7 = 3.0d"));
        int[][] ways = {{1, 0}, {1, 1}, {0, 1}, {-1, 1}, {-1, 0}, {-1, -1}, {0, -1}, {1, -1}};
        for (int k = 0; k < 8; k++) {
            int p = 2 * (ways[k][0] * ways[k][0] + ways[k][1] * ways[k][1]);
            Sentences.sentence("DIRECTION (dx, dy)", Sentences.joined(wakes(k, 1, new int[] {0, 0},
                new int[] {2 * ways[k][0], 2 * ways[k][1]}), "of 1 7 = " + left(p)));
            Sentences.sentence("DIRECTION (dx, dy), against it", Sentences.joined(wakes(k, 1, new int[] {0, 0},
                new int[] {-2 * ways[k][0], -2 * ways[k][1]}), "of 1 7 = 3.0d"));
        }
    }

    private static void wakesOfWhom() {
        String[] behind = {"fit 0 0 CUPS", "fit 0 3 DRIVE", "fit 0 4 BLADE", "fit 1 0 CUPS", "read 1 0 3.0d",
            "place 1 1 0"};
        Sentences.sentence("WIND: that is MAKING (WAITING, STARTING are not; MAKING from this STEP on)",
            Sentences.joined(behind, "run 1", "of 0 0 = WAITING", "of 1 7 = 3.0d", "read 0 0 900.0000000000001d",
            "run 1", "of 0 0 = STARTING", "of 1 7 = 3.0d", "read 0 0 0.0d", "run 1", "of 0 0 = MAKING",
            "of 1 7 = " + left(1)));
        Sentences.sentence("WIND: that is MAKING (STOPPING from this STEP on is not)", Sentences.joined(wakes(0, 1,
            new int[] {0, 0}, new int[] {1, 0}), "read 0 0 nan", "of 1 7 = " + left(1), "run 1", "of 0 0 = STOPPING",
            "of 1 7 = 3.0d"));
        Sentences.sentence("WIND: that is MAKING (FAILED from this STEP on is not)", Sentences.joined(wakes(0, 1,
            new int[] {0, 0}, new int[] {1, 0}), "of 1 7 = " + left(1), "step 0 HOLDING 0 1", "step 1 STRIP 0 4",
            "act 0 = 0", "run 1 = 1", "of 0 0 = FAILED", "of 1 7 = 3.0d"));
        Sentences.sentence("WIND: gone through ahead of it, by LINE and not by number", "fit 1 0 CUPS", "fit 1 3 DRIVE",
            "fit 1 4 BLADE", "fit 0 0 CUPS", "read 0 0 3.0d", "place 0 1 0", "read 1 0 900.0000000000001d", "run 1",
            "of 0 7 = 3.0d", "read 1 0 0.0d", "run 1", "of 1 0 = MAKING", "of 0 7 = " + left(1));
        Sentences.sentence("WIND: without VOTE 0.0", Sentences.joined(wakes(0, 1, new int[] {0, 0}, new int[] {1, 0}),
            "read 1 0 nan", "run 1", "of 1 6 = nan", "of 1 7 = 0.0d"));
        Sentences.sentence("WIND: 4.0 or more is of the WIND, not of the VOTE", Sentences.joined(wakes(0, 1,
            new int[] {0, 0}, new int[] {1, 0}), "read 1 0 7.9d", "fit 1 3 DRIVE", "run 1", "of 1 6 = 7.9d",
            "of 1 0 = WAITING", "read 1 0 8.0d", "run 1", "of 1 0 = STARTING"));
    }

    private static void wakesOfMany() {
        int[] last = {10, 0};
        Sentences.of("WIND: D = D + d * d, in that order", 4, Sentences.joined(wakes(0, 3, new int[] {9, 0},
            new int[] {2, 0}, new int[] {5, 0}, last), "of 3 7 = " + left(8, 5, 1)));
        Sentences.of("WIND: D not above 1.0", 5, Sentences.joined(wakes(0, 4, new int[] {9, 0}, new int[] {9, 1},
            new int[] {9, -1}, new int[] {9, 2}, last), "of 4 7 = " + left(1, 1, 1, 1)));
        String[] five = wakes(0, 5, new int[] {9, 0}, new int[] {9, 1}, new int[] {9, -1}, new int[] {9, 2},
            new int[] {9, -2}, last);
        Sentences.of("WIND: D = sqrt(D), 1.0 if that is above", 6, Sentences.joined(five, "of 5 6 = 3.0d",
            "of 5 7 = 0.0d", "read 5 0 -3.0d", "run 1", "of 5 7 = -0.0d", "of 5 6 = -3.0d"));
    }

    private static void traceOfSteps() {
        Sentences.sentence("the TRACE of STEPS: the drive's, then the blade's; by turbine", Sentences.joined(WHOLE,
            "fit 1 0 CUPS", "fit 1 3 PITCH", "place 0 1 9", "read 0 0 900.0000000000001d", "read 1 0 9.0d", "run 1 = 0",
            "traced 0 = 33", "traced 1 = 32", "traced 2 = 15", "traced 3 = 14", "traced 4 = 32", "traced 5 = 14",
            "traced 6 = NONE", "forget = 6", "read 0 0 0.0d", "read 1 0 nan", "run 1 = 0", "traced 4 = 32",
            "traced 5 = 14", "traced 6 = 31", "traced 7 = NONE"));
        Sentences.sentence("the TRACE of STEPS: the first 60", Sentences.joined(MAKING, "count 5 = 60", "traced 0 = 32",
            "traced 60 = NONE"));
    }
}
