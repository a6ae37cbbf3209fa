/** Each sentence on the store (promises 1 to 18) that names a boundary: what is let in, what is refused. */
public final class StoreBoundariesTest {
    private StoreBoundariesTest() {
    }

    public static void main(String[] args) {
        newObject();
        cases();
        newThings();
        bitsOfWholeNumbers();
        bitsOfFloatsAndDoubles();
        row();
        grid();
        cradle();
        part();
        setClearHolds();
        putAndGet();
        putAtAndGetAt();
        link();
        lay();
        lift();
        copyLimits();
        copyOrder();
        copyBelonging();
        length();
        alikeRows();
        alikeShelves();
        Sentences.end();
    }

    private static void newObject() {
        int[][] told = {{Integer.MIN_VALUE, 1}, {-1, 1}, {0, 1}, {1, 1}, {2, 2}, {5, 5}, {6, 6}, {7, 6},
            {Integer.MAX_VALUE, 6}};
        for (int[] pair : told) {
            int n = pair[1];
            Sentences.of("1: 1 .. 6 turbines (another number as the nearest)", pair[0], "count 0 = " + n,
                "of 0 5 = 1000.0d", "of " + (n - 1) + " 5 = 1000.0d", "of " + n + " 5 = 0 UNKNOWN");
        }
        Sentences.sentence("1: EMPTY CASES", "count 2 = 0", "holds 0 = NONE", "holds 11 = NONE", "holds 23 = NONE");
        Sentences.sentence("1: no PLANS", "act 0 = 0", "acted 1 = 0", "act 9 = 0", "acted 1 = 0", "drop 0 = 0",
            "drop 9 = 0");
    }

    /** The case of each call that has one, told as #: 0 and 23 are let in, -1 and 24 are not. */
    private static void cases() {
        String told = "Terms: CASES 0 .. 23; UNKNOWN (no such CASE)";
        aCase(told, "row # ints 3", "3");
        aCase(told, "grid # 2 2", "2");
        aCase(told, "cradle # VANE 2", "2");
        aCase(told, "part # VANE", "3");
        aCase(told, "set # 16", "1");
        aCase(told, "set 16 #", "1");
        aCase(told, "clear #", "1", "row # ints 1");
        aCase(told, "holds #", "NONE");
        aCase(told, "put # ints 0 4", "1", "row # ints 1");
        aCase(told, "putAt # 0 0 4", "1", "grid # 1 1");
        aCase(told, "link # 0 16", "1", "grid # 1 1");
        aCase(told, "link 17 0 #", "1", "row # ints 1");
        aCase(told, "lay # 0 19", "1", "cradle # VANE 1");
        aCase(told, "lay 20 0 #", "1", "part # VANE");
        aCase(told, "lift # 0 VANE 5", "1", "cradle # VANE 1");
        aCase(told, "lift 20 1 VANE #", "1");
        aCase(told, "copy # 0 16 0 1", "1", "row # ints 1");
        aCase(told, "copy 16 0 # 0 1", "1", "row # ints 1");
        aCase(told, "length # ints", "4", "row # ints 4");
        aCase(told, "alike # 5", "1");
        aCase(told, "alike 5 #", "1");
        aCase(told, "test # doubles 0 0 4", "1", "row # doubles 1");
        String zero = "Terms: CASES 0 .. 23, of a call that answers 0";
        Sentences.within(zero, 0, 23, "get # ints 0", "6", "0 UNKNOWN", "row # ints 1", "put # ints 0 6");
        Sentences.within(zero, 0, 23, "getAt # 0 0", "6", "0 UNKNOWN", "grid # 1 1", "putAt # 0 0 6");
        Sentences.within(zero, 0, 23, "ask # LIMIT 0", "40", "0 UNKNOWN", "part # CUPS");
        Sentences.within(zero, 0, 23, "told # SERIAL", "3", "0 UNKNOWN", "part # CUPS");
        Sentences.within(zero, 0, 23, "seconds # doubles 5", "1", "0 UNKNOWN", "row # doubles 1");
    }

    private static void aCase(String told, String call, String answer, String... setup) {
        Sentences.within(told, 0, 23, call, answer, "UNKNOWN", setup);
    }

    private static void newThings() {
        for (int lane = 0; lane < 8; lane++) {
            Sentences.sentence("Terms: what is in a new one is 0, false", "row 3 " + lane + " 30",
                "get 3 " + lane + " 0 = 0", "get 3 " + lane + " 29 = 0", "put 3 " + lane + " 29 1",
                "row 3 " + lane + " 30 = 30", "get 3 " + lane + " 29 = 0");
        }
        Sentences.sentence("Terms: what is in a new one is 0 (GRID)", "grid 3 8 12", "getAt 3 0 0 = 0",
            "getAt 3 7 11 = 0", "putAt 3 7 11 1", "grid 3 8 12", "getAt 3 7 11 = 0");
        Sentences.sentence("Terms: what is in a new one is missing (CRADLE)", "cradle 3 CUPS 8", "part 4 CUPS",
            "lift 3 0 CUPS 4 = 1", "holds 4 = NONE", "part 4 CUPS", "lift 3 7 CUPS 4 = 1", "holds 4 = NONE");
        Sentences.sentence("Terms: several may hold the same one", "row 0 ints 1", "set 0 23 = 1", "put 23 ints 0 9",
            "get 0 ints 0 = 9", "clear 0", "get 23 ints 0 = 9", "row 23 ints 1", "get 23 ints 0 = 0");
    }

    private static void bits(String told, String lane, String given, String want) {
        Sentences.sentence(told, "row 0 " + lane + " 2", "put 0 " + lane + " 1 " + given + " = 1",
            "get 0 " + lane + " 1 = " + want, "get 0 " + lane + " 0 = 0");
    }

    private static void bitsOfWholeNumbers() {
        String[][] bytes = {{"127", "127"}, {"128", "-128"}, {"-128", "-128"}, {"-129", "127"}, {"255", "-1"}, {"256",
            "0"}};
        String[][] shorts = {{"32767", "32767"}, {"32768", "-32768"}, {"-32769", "32767"}, {"65535", "-1"}, {"65536",
            "0"}};
        String[][] chars = {{"65535", "65535"}, {"65536", "0"}, {"-1", "65535"}, {"32768", "32768"}};
        String[][] ints = {{"2147483647", "2147483647"}, {"2147483648", "-2147483648"}, {"-2147483649", "2147483647"},
            {"4294967295", "-1"}, {"4294967296", "0"}};
        String[][] longs = {{"MOST", "MOST"}, {"LEAST", "LEAST"}, {"-1", "-1"}};
        String[][] truths = {{"0", "0"}, {"1", "1"}, {"2", "0"}, {"3", "1"}, {"-1", "1"}, {"-2", "0"}, {"LEAST", "0"}};
        String[][][] all = {bytes, shorts, chars, ints, longs, truths};
        String[] lanes = {"bytes", "shorts", "chars", "ints", "longs", "truths"};
        for (int k = 0; k < all.length; k++) {
            for (String[] pair : all[k]) {
                bits("Terms: of those given the lowest that count are taken", lanes[k], pair[0], pair[1]);
            }
        }
    }

    private static void bitsOfFloatsAndDoubles() {
        String floats = "Terms: bits of a float as an int; of each that is no number 2143289344";
        bits(floats, "floats", "-0.0f", "-2147483648");
        bits(floats, "floats", "0x7F800000", "2139095040");
        bits(floats, "floats", "0x7F800001", "2143289344");
        bits(floats, "floats", "0x7FFFFFFF", "2143289344");
        bits(floats, "floats", "0xFF800000", "-8388608");
        bits(floats, "floats", "0xFF800001", "2143289344");
        bits(floats, "floats", "0xFFFFFFFF", "2143289344");
        bits(floats, "floats", "0x7F7FFFFF", "2139095039");
        bits(floats, "floats", "0xFF7FFFFF", "-8388609");
        bits(floats, "floats", "0x00000001", "1");
        bits("Terms: of those given the lowest that count are taken (floats)", "floats", "0x7FF800003F800000", "1.0f");
        bits("Terms: of those given the lowest that count are taken (floats)", "floats", "0x100000000", "0");
        String doubles = "Terms: bits of a double; of each that is no number 9221120237041090560";
        bits(doubles, "doubles", "-0.0d", "LEAST");
        bits(doubles, "doubles", "0x7FF0000000000000", "inf");
        bits(doubles, "doubles", "0x7FF0000000000001", "9221120237041090560");
        bits(doubles, "doubles", "0x7FFFFFFFFFFFFFFF", "9221120237041090560");
        bits(doubles, "doubles", "0xFFF0000000000000", "-inf");
        bits(doubles, "doubles", "0xFFF0000000000001", "9221120237041090560");
        bits(doubles, "doubles", "0xFFFFFFFFFFFFFFFF", "9221120237041090560");
        bits(doubles, "doubles", "0x7FEFFFFFFFFFFFFF", "9218868437227405311");
        bits(doubles, "doubles", "0x0000000000000001", "1");
    }

    private static void row() {
        Sentences.atMost("2: a ROW of n (30 at most); OUTSIDE: n above 30", 30, "row 16 ints #", "#", "OUTSIDE");
        Sentences.atLeast("2: SIZE (fewer than none)", 0, "row 16 ints #", "#", "SIZE");
        Sentences.within("2: OUTSIDE: LANE", 0, 7, "row 16 # 3", "3", "OUTSIDE");
        for (int lane = 0; lane < 8; lane++) {
            Sentences.sentence("2: n items and no more", "row 0 " + lane + " 30 = 30", "length 0 " + lane + " = 30",
                "put 0 " + lane + " 29 1 = 1", "put 0 " + lane + " 30 1 = INDEX", "row 0 " + lane + " 1 = 1",
                "put 0 " + lane + " 0 1 = 1", "put 0 " + lane + " 1 1 = INDEX", "row 0 " + lane + " 0 = 0",
                "put 0 " + lane + " 0 1 = INDEX");
        }
        Sentences.furnished("2: in a CASE (whatever it held)", "row 16 longs 1 = 1", "holds 16 = longs",
            "row 17 ints 1 = 1", "holds 17 = ints", "row 18 ints 1 = 1", "holds 18 = ints", "row 20 ints 1 = 1",
            "holds 20 = ints");
        Sentences.furnished("2: the first that fits: UNKNOWN, OUTSIDE; then SIZE", "row 24 8 31 = UNKNOWN",
            "row -1 -1 -1 = UNKNOWN", "row 0 8 -1 = OUTSIDE", "row 0 -1 -1 = OUTSIDE", "row 0 0 -1 = SIZE");
    }

    private static void grid() {
        Sentences.atMost("3: a GRID of n (8 at most); OUTSIDE: n above", 8, "grid 16 # 2", "#", "OUTSIDE");
        Sentences.atMost("3: a GRID of n missing ones (8 at most)", 8, "grid 16 # -1", "#", "OUTSIDE");
        Sentences.atMost("3: ROWS of m (12 at most); OUTSIDE: m above", 12, "grid 16 2 #", "2", "OUTSIDE");
        Sentences.atMost("3: OUTSIDE: m above, of no ROWS, too", 12, "grid 16 0 #", "0", "OUTSIDE");
        Sentences.atLeast("3: SIZE: n below 0", 0, "grid 16 # 2", "#", "SIZE");
        Sentences.atLeast("3: SIZE: m below -1", -1, "grid 16 2 #", "2", "SIZE");
        Sentences.atLeast("3: SIZE: m below -1, of no ROWS, too", -1, "grid 16 0 #", "0", "SIZE");
        Sentences.sentence("3: n ROWS of m and no more", "grid 0 8 12 = 8", "length 0 GRID = 8", "putAt 0 7 11 1 = 1",
            "putAt 0 7 12 1 = INDEX", "putAt 0 8 0 1 = INDEX", "putAt 0 0 11 1 = 1", "putAt 0 0 12 1 = INDEX");
        Sentences.sentence("3: ROWS of m = 0", "grid 0 2 0 = 2", "putAt 0 1 0 1 = INDEX", "putAt 0 2 0 1 = INDEX");
        Sentences.sentence("3: or (m = -1) of n missing ones", "grid 0 2 -1 = 2", "length 0 GRID = 2",
            "putAt 0 0 0 1 = NOTHING", "putAt 0 1 0 1 = NOTHING", "putAt 0 2 0 1 = INDEX");
        Sentences.sentence("3: of none", "grid 0 0 5 = 0", "holds 0 = GRID", "putAt 0 0 0 1 = INDEX", "grid 0 0 -1 = 0",
            "holds 0 = GRID", "putAt 0 0 0 1 = INDEX");
        Sentences.sentence("3: each ROW its own", "grid 0 2 2", "putAt 0 0 1 5", "getAt 0 1 1 = 0");
        Sentences.furnished("3: the first that fits: UNKNOWN, OUTSIDE; then SIZE", "grid 24 9 13 = UNKNOWN",
            "grid -1 -1 -2 = UNKNOWN", "grid 0 9 -2 = OUTSIDE", "grid 0 -1 13 = OUTSIDE", "grid 0 -1 -2 = SIZE");
    }

    private static void cradle() {
        Sentences.atMost("4: a CRADLE of n (8 at most); OUTSIDE", 8, "cradle 16 CUPS #", "#", "OUTSIDE");
        Sentences.atLeast("4: SIZE (fewer than none)", 0, "cradle 16 CUPS #", "#", "SIZE");
        Sentences.within("4: for a KIND 0 .. 7; OUTSIDE", 0, 7, "cradle 16 # 3", "3", "OUTSIDE");
        Sentences.sentence("4: n places and no more", "part 1 CUPS", "cradle 0 CUPS 8 = 8", "lay 0 7 1 = 1",
            "lay 0 8 1 = INDEX", "cradle 0 CUPS 0 = 0", "holds 0 = CRADLE", "lay 0 0 1 = INDEX");
        Sentences.furnished("4: the first that fits: UNKNOWN, OUTSIDE; then SIZE", "cradle 24 8 9 = UNKNOWN",
            "cradle -1 -1 -1 = UNKNOWN", "cradle 0 8 -1 = OUTSIDE", "cradle 0 -1 -1 = OUTSIDE", "cradle 0 0 -1 = SIZE");
    }

    private static void part() {
        Sentences.within("5: a PART of a KIND 0 .. 6; OUTSIDE", 0, 6, "part 16 #", "3", "OUTSIDE");
        Sentences.sentence("5: its SERIAL (0, 1, .. as they come)", "part 0 CUPS = 0", "part 1 7 = OUTSIDE",
            "part 24 CUPS = UNKNOWN", "part 0 HEAVY = 1", "told 0 SERIAL = 1", "told 0 KIND = HEAVY", "told 0 WEAR = 0",
            "count 1 = 2");
        Sentences.furnished("5: ROOM: there were 60", "55 x part 1 CUPS", "clear 1", "part 0 VANE = 58",
            "part 1 BLADE = 59", "part 0 VANE = ROOM", "part 2 VANE = ROOM", "told 0 SERIAL = 58", "holds 2 = NONE",
            "count 1 = 60", "clear 0", "clear 1", "part 0 VANE = ROOM");
        Sentences.sentence("5: the first that fits: UNKNOWN, OUTSIDE, ROOM", "60 x part 1 CUPS", "part 24 7 = UNKNOWN",
            "part 24 0 = UNKNOWN", "part 0 7 = OUTSIDE", "part 0 -1 = OUTSIDE", "part 0 6 = ROOM");
    }

    private static void setClearHolds() {
        Sentences.furnished("6: CASE d holds what CASE c holds: 1", "set 16 0 = 1", "alike 16 0 = 1", "set 17 16 = 1",
            "holds 16 = GRID", "alike 17 16 = 1");
        Sentences.furnished("6: or is EMPTY: 1", "set 0 16 = 1", "holds 16 = NONE", "count 2 = 5");
        Sentences.furnished("6: 0: it was so", "set 0 1 = 0", "set 16 16 = 0", "set 0 0 = 0", "set 19 21 = 0",
            "row 0 ints 2", "put 0 ints 1 7", "alike 0 16 = 2", "set 0 16 = 1", "set 0 16 = 0");
        Sentences.furnished("6: UNKNOWN (either)", "set 24 24 = UNKNOWN", "set -1 16 = UNKNOWN", "set 16 -1 = UNKNOWN");
        Sentences.furnished("7: a CASE is EMPTY: 1; 0: it was", "clear 16 = 1", "holds 16 = NONE", "clear 16 = 0",
            "clear 0 = 0", "count 2 = 5", "clear 19 = 1", "holds 21 = PART");
        String[] made = {"row 0 bytes 0", "row 0 shorts 0", "row 0 chars 0", "row 0 ints 0", "row 0 longs 0",
            "row 0 floats 0", "row 0 doubles 0", "row 0 truths 0", "grid 0 0 0", "cradle 0 CUPS 0", "part 0 CUPS"};
        for (int sort = 0; sort < made.length; sort++) {
            Sentences.sentence("8: what a CASE holds: 0 .. 10; NONE", "holds 0 = NONE", made[sort], "holds 0 = " + sort,
                "clear 0", "holds 0 = NONE");
        }
    }

    private static void putAndGet() {
        Sentences.atLeast("9: OUTSIDE (LANE)", 0, "put 5 # 1 5", "1", "OUTSIDE", "row 5 bytes 2");
        Sentences.atMost("9: OUTSIDE (LANE)", 7, "put 5 # 1 5", "1", "OUTSIDE", "row 5 truths 2");
        Sentences.atLeast("10: OUTSIDE (LANE)", 0, "get 5 # 1", "0", "0 OUTSIDE", "row 5 bytes 2");
        Sentences.atMost("10: OUTSIDE (LANE)", 7, "get 5 # 1", "0", "0 OUTSIDE", "row 5 truths 2");
        Sentences.within("9: INDEX", 0, 29, "put 5 longs # 5", "1", "INDEX", "row 5 longs 30");
        Sentences.within("10: INDEX", 0, 29, "get 5 longs #", "8", "0 INDEX", "row 5 longs 30", "put 5 longs # 8");
        for (int lane = 0; lane < 8; lane++) {
            int other = (lane + 1) % 8;
            Sentences.sentence("9, 10: CAST (a ROW of another LANE), of no items, too", "row 0 " + lane + " 0",
                "put 0 " + other + " 0 1 = CAST", "get 0 " + other + " 0 = 0 CAST", "put 0 " + lane + " 0 1 = INDEX");
            Sentences.furnished("9, 10: CAST (no ROW)", "put 17 " + lane + " 0 1 = CAST",
                "put 18 " + lane + " 0 1 = CAST", "put 20 " + lane + " 0 1 = CAST", "get 17 " + lane + " 0 = 0 CAST",
                "get 18 " + lane + " 0 = 0 CAST", "get 20 " + lane + " 0 = 0 CAST");
            Sentences.sentence("9, 10: NOTHING; an EMPTY CASE may be treated as any",
                "put 0 " + lane + " 0 1 = NOTHING", "get 0 " + lane + " 0 = 0 NOTHING");
        }
        Sentences.furnished("9: UNKNOWN; OUTSIDE; CAST, NOTHING, INDEX", "put 24 8 9 1 = UNKNOWN",
            "put 16 8 9 1 = OUTSIDE", "put 0 8 9 1 = OUTSIDE", "put 16 longs 9 1 = CAST", "put 0 longs 9 1 = NOTHING",
            "put 16 ints 2 1 = INDEX");
        Sentences.furnished("10: likewise", "get 24 8 9 = 0 UNKNOWN", "get 16 8 9 = 0 OUTSIDE",
            "get 0 -1 9 = 0 OUTSIDE", "get 16 longs 9 = 0 CAST", "get 0 longs 9 = 0 NOTHING",
            "get 16 ints 2 = 0 INDEX");
    }

    private static void putAtAndGetAt() {
        Sentences.within("11: INDEX (i)", 0, 7, "putAt 5 # 0 9", "1", "INDEX", "grid 5 8 1");
        Sentences.within("11: INDEX (j)", 0, 11, "putAt 5 1 # 9", "1", "INDEX", "grid 5 2 12");
        Sentences.within("12: INDEX (i)", 0, 7, "getAt 5 # 0", "9", "0 INDEX", "grid 5 8 1", "putAt 5 # 0 9");
        Sentences.within("12: INDEX (j)", 0, 11, "getAt 5 1 #", "9", "0 INDEX", "grid 5 2 12", "putAt 5 1 # 9");
        Sentences.furnished("11: CAST", "putAt 16 0 0 1 = CAST", "putAt 18 0 0 1 = CAST", "putAt 20 0 0 1 = CAST");
        Sentences.furnished("12: CAST", "getAt 16 0 0 = 0 CAST", "getAt 18 0 0 = 0 CAST", "getAt 20 0 0 = 0 CAST");
        Sentences.sentence("11: becomes v", "grid 0 1 1", "putAt 0 0 0 MAX = 1", "getAt 0 0 0 = MAX",
            "putAt 0 0 0 MIN = 1", "getAt 0 0 0 = MIN");
        Sentences.sentence("11: NOTHING (EMPTY), INDEX (i), NOTHING (missing), INDEX (j)", "putAt 0 9 9 1 = NOTHING",
            "grid 0 2 -1", "putAt 0 2 9 1 = INDEX", "putAt 0 -1 9 1 = INDEX", "putAt 0 1 9 1 = NOTHING", "grid 0 2 1",
            "putAt 0 1 1 1 = INDEX", "putAt 0 1 -1 1 = INDEX");
        Sentences.sentence("12: 0 if that is refused", "getAt 0 9 9 = 0 NOTHING", "grid 0 2 -1",
            "getAt 0 2 9 = 0 INDEX", "getAt 0 1 9 = 0 NOTHING", "grid 0 2 1", "putAt 0 1 0 4", "getAt 0 1 1 = 0 INDEX",
            "getAt 0 1 -1 = 0 INDEX", "getAt 0 1 0 = 4");
    }

    private static void link() {
        Sentences.within("13: INDEX", 0, 7, "link 5 # 16", "1", "INDEX", "grid 5 8 1");
        Sentences.within("13: INDEX, of a missing one, too", 0, 7, "link 5 # 0", "1", "INDEX", "grid 5 8 1");
        Sentences.sentence("13: INDEX: no ROWS", "grid 0 0 -1", "row 1 ints 1", "link 0 0 1 = INDEX");
        Sentences.furnished("13: CAST (c)", "link 16 0 16 = CAST", "link 18 0 16 = CAST", "link 20 0 16 = CAST",
            "link 16 0 0 = CAST");
        Sentences.furnished("13: CAST (d)", "link 17 0 17 = CAST", "link 17 0 18 = CAST", "link 17 0 20 = CAST",
            "row 0 longs 1", "link 17 0 0 = CAST", "row 0 chars 1", "link 17 0 0 = CAST");
        Sentences.furnished("13: UNKNOWN; CAST (c), CAST (d), NOTHING, INDEX", "link 24 9 17 = UNKNOWN",
            "link 16 9 24 = UNKNOWN", "link 0 9 17 = CAST", "link 17 9 17 = CAST", "link 0 9 16 = NOTHING",
            "link 0 0 1 = NOTHING", "link 17 1 16 = INDEX");
        Sentences.furnished("13: EMPTY: missing", "link 17 0 0 = 1", "getAt 17 0 0 = 0 NOTHING", "link 17 0 16 = 1",
            "getAt 17 0 1 = 7");
        Sentences.furnished("13: the same one", "link 17 0 16 = 1", "put 16 ints 0 44", "getAt 17 0 0 = 44",
            "row 0 ints 30", "link 17 0 0 = 1", "putAt 17 0 29 3 = 1", "get 0 ints 29 = 3", "putAt 17 0 30 3 = INDEX",
            "row 0 ints 0", "link 17 0 0 = 1", "putAt 17 0 0 3 = INDEX");
    }

    private static void lay() {
        Sentences.within("14: INDEX", 0, 7, "lay 5 # 19", "1", "INDEX", "cradle 5 VANE 8");
        Sentences.within("14: INDEX, of a missing one, too", 0, 7, "lay 5 # 0", "1", "INDEX", "cradle 5 VANE 8");
        Sentences.furnished("14: CAST (c)", "lay 16 0 19 = CAST", "lay 17 0 19 = CAST", "lay 18 0 19 = CAST",
            "lay 18 0 0 = CAST");
        Sentences.furnished("14: CAST (d)", "lay 20 0 16 = CAST", "lay 20 0 17 = CAST", "lay 20 0 20 = CAST");
        Sentences.furnished("14: UNKNOWN; CAST (c), CAST (d), NOTHING, INDEX, STORE", "lay 24 9 16 = UNKNOWN",
            "lay 16 9 24 = UNKNOWN", "lay 0 9 16 = CAST", "lay 20 9 16 = CAST", "lay 0 9 18 = NOTHING",
            "lay 0 0 1 = NOTHING", "lay 20 2 18 = INDEX", "lay 20 1 18 = STORE", "lift 20 1 VANE 0",
            "told 0 SERIAL = 1");
        Sentences.furnished("14: EMPTY: missing", "lay 20 1 0 = 1", "lift 20 1 VANE 21 = 1", "holds 21 = NONE",
            "holds 19 = PART");
        String[] of = {"0 7", "1 7", "1 2 7", "3", "3 4", "5", "5 6"};
        for (int kind = 0; kind < 7; kind++) {
            for (int wanted = 0; wanted < 8; wanted++) {
                boolean is = (" " + of[kind] + " ").contains(" " + wanted + " ");
                Sentences.sentence("14: STORE: not OF its KIND", "part 0 " + kind, "cradle 1 " + wanted + " 1",
                    "lay 1 0 0 = " + (is ? "1" : "STORE"), "lift 1 0 " + kind + " 2 = 1",
                    "holds 2 = " + (is ? "PART" : "NONE"));
                Sentences.sentence("15: treated as a PART OF a KIND; CAST", "part 0 " + kind, "cradle 1 " + kind + " 1",
                    "lay 1 0 0", "row 2 ints 1", "lift 1 0 " + wanted + " 2 = " + (is ? "1" : "CAST"),
                    "alike 0 2 = " + (is ? "1" : "0"), "lift 1 0 " + kind + " 2 = 1", "alike 0 2 = 1");
            }
        }
    }

    private static void lift() {
        Sentences.within("15: INDEX", 0, 7, "lift 5 # VANE 16", "1", "INDEX", "cradle 5 VANE 8",
            "lay 5 # 19");
        Sentences.within("15: INDEX, of a missing one, too", 0, 7, "lift 5 # DRIVE 16", "1", "INDEX",
            "cradle 5 VANE 8");
        Sentences.within("15: a KIND 0 .. 7; OUTSIDE", 0, 7, "lift 5 0 # 16", "1", "OUTSIDE", "cradle 5 VANE 1");
        Sentences.furnished("15: it stays there, too", "lift 20 1 SONIC 0 = 1", "alike 0 19 = 1",
            "lift 20 1 SENSOR 1 = 1", "alike 1 0 = 1");
        Sentences.furnished("15: missing: EMPTY, as each KIND", "lift 20 0 HEAVY 16 = 1", "holds 16 = NONE");
        Sentences.furnished("15: into the CASE of the CRADLE", "lift 20 1 VANE 20 = 1", "holds 20 = PART");
        Sentences.furnished("15: CAST (c)", "lift 16 0 VANE 0 = CAST", "lift 17 0 VANE 0 = CAST",
            "lift 18 0 VANE 0 = CAST");
        Sentences.furnished("15: UNKNOWN; OUTSIDE; CAST (c), NOTHING, INDEX, CAST", "lift 24 9 8 16 = UNKNOWN",
            "lift 16 9 8 24 = UNKNOWN", "lift 16 9 8 16 = OUTSIDE", "lift 0 9 -1 16 = OUTSIDE",
            "lift 16 9 CUPS 16 = CAST", "lift 0 9 CUPS 16 = NOTHING", "lift 20 2 CUPS 16 = INDEX",
            "lift 20 1 CUPS 16 = CAST");
    }

    private static void copyLimits() {
        String rows = "16: INDEX: i, j, n below 0, not so many";
        String[] two = {"row 4 ints 4", "put 4 ints 3 6", "row 5 ints 6", "put 5 ints 5 8"};
        Sentences.within(rows, 0, 3, "copy 4 # 5 0 1", "1", "INDEX", two);
        Sentences.within(rows, 0, 5, "copy 4 0 5 # 1", "1", "INDEX", two);
        Sentences.within(rows, 0, 4, "copy 4 0 5 0 #", "#", "INDEX", two);
        Sentences.within(rows, 0, 4, "copy 5 0 4 0 #", "#", "INDEX", two);
        Sentences.within(rows, 0, 4, "copy 4 # 5 0 0", "0", "INDEX", two);
        Sentences.within(rows, 0, 6, "copy 4 0 5 # 0", "0", "INDEX", two);
        Sentences.within(rows, 0, 2, "copy 4 2 5 0 #", "#", "INDEX", two);
        Sentences.within(rows, 0, 2, "copy 4 0 5 4 #", "#", "INDEX", two);
        String[] shelves = {"cradle 4 SENSOR 2", "lay 4 0 19", "lay 4 1 19", "cradle 5 VANE 4"};
        String told = "16: INDEX, of CRADLES and GRIDS";
        Sentences.within(told, 0, 1, "copy 4 # 5 0 1", "1", "INDEX", shelves);
        Sentences.within(told, 0, 3, "copy 4 0 5 # 1", "1", "INDEX", shelves);
        Sentences.within(told, 0, 2, "copy 4 0 5 0 #", "#", "INDEX", shelves);
        Sentences.within(told, 0, 2, "copy 4 0 5 2 #", "#", "INDEX", shelves);
        String[] grids = {"grid 4 3 2", "putAt 4 2 1 6", "grid 5 2 -1"};
        Sentences.within(told, 0, 2, "copy 4 # 5 1 1", "1", "INDEX", grids);
        Sentences.within(told, 0, 1, "copy 4 2 5 # 1", "1", "INDEX", grids);
        Sentences.within(told, 0, 2, "copy 4 0 5 0 #", "#", "INDEX", grids);
        Sentences.within(told, 0, 2, "copy 4 1 4 0 #", "#", "INDEX", grids);
        Sentences.sentence("16: none of none", "row 0 ints 0", "copy 0 0 0 0 0 = 0", "copy 0 0 0 0 1 = INDEX",
            "copy 0 1 0 0 0 = INDEX", "cradle 1 CUPS 0", "copy 1 0 1 0 0 = 0", "copy 1 0 1 1 0 = INDEX");
    }

    private static void copyOrder() {
        Sentences.furnished("16: UNKNOWN; NOTHING; STORE; INDEX", "copy 24 -1 0 -1 -1 = UNKNOWN",
            "copy 0 -1 24 -1 -1 = UNKNOWN", "copy 0 -1 18 -1 -1 = NOTHING", "copy 18 -1 0 -1 -1 = NOTHING",
            "copy 16 -1 17 -1 -1 = STORE", "copy 16 2 16 0 1 = INDEX");
        Sentences.furnished("16: STORE ahead of INDEX", "copy 18 9 18 9 9 = STORE", "copy 18 9 20 9 9 = STORE",
            "copy 20 9 18 9 9 = STORE", "copy 17 9 16 9 9 = STORE", "copy 16 9 20 9 9 = STORE", "row 0 longs 1",
            "copy 16 9 0 9 9 = STORE");
        Sentences.furnished("16: NOTHING: one is EMPTY", "copy 0 0 16 0 0 = NOTHING", "copy 16 0 0 0 0 = NOTHING",
            "copy 0 0 0 0 0 = NOTHING");
        Sentences.furnished("16: STORE: a PART", "copy 18 0 18 0 0 = STORE", "copy 18 0 16 0 0 = STORE",
            "copy 16 0 18 0 0 = STORE", "copy 20 0 18 0 0 = STORE", "copy 18 0 20 0 0 = STORE");
        Sentences.furnished("16: STORE: a ROW and another THING", "copy 16 0 17 0 0 = STORE",
            "copy 17 0 16 0 0 = STORE", "copy 16 0 20 0 0 = STORE", "copy 20 0 16 0 0 = STORE");
        for (int lane = 0; lane < 8; lane++) {
            for (int other = 0; other < 8; other++) {
                Sentences.sentence("16: STORE: unlike LANES", "row 0 " + lane + " 1", "put 0 " + lane + " 0 1",
                    "row 1 " + other + " 1", "copy 0 0 1 0 1 = " + (lane == other ? "1" : "STORE"),
                    "get 1 " + other + " 0 = " + (lane == other ? "1" : "0"));
            }
        }
    }

    private static void copyBelonging() {
        String[] row = {"row 0 ints 4", "put 0 ints 0 1", "put 0 ints 1 2", "put 0 ints 2 3", "put 0 ints 3 4",
            "set 0 1"};
        Sentences.sentence("16: as they were before (upwards)", Sentences.joined(row, "copy 0 0 1 1 3 = 3",
            "get 0 ints 0 = 1", "get 0 ints 1 = 1", "get 0 ints 2 = 2", "get 0 ints 3 = 3"));
        Sentences.sentence("16: as they were before (downwards)", Sentences.joined(row, "copy 0 1 1 0 3 = 3",
            "get 0 ints 0 = 2", "get 0 ints 1 = 3", "get 0 ints 2 = 4", "get 0 ints 3 = 4"));
        String[] cradle = {"part 1 CUPS", "part 2 CUPS", "cradle 0 CUPS 3", "lay 0 0 1", "lay 0 1 2", "set 0 3"};
        Sentences.sentence("16: as they were before (CRADLE)", Sentences.joined(cradle, "copy 0 0 3 1 2 = 2",
            "lift 0 0 CUPS 5", "told 5 SERIAL = 0", "lift 0 1 CUPS 5", "told 5 SERIAL = 0", "lift 0 2 CUPS 5",
            "told 5 SERIAL = 1"));
        Sentences.sentence("16: as they were before (GRID)", "grid 0 3 1", "putAt 0 0 0 1", "putAt 0 1 0 2",
            "putAt 0 2 0 3", "copy 0 0 0 1 2 = 2", "getAt 0 0 0 = 1", "getAt 0 1 0 = 1", "getAt 0 2 0 = 2",
            "putAt 0 0 0 9", "getAt 0 1 0 = 9");
        String[] parts = {"part 1 VANE", "part 2 SONIC", "part 3 CUPS", "cradle 4 SENSOR 4", "lay 4 0 1", "lay 4 2 3",
            "lay 4 3 2", "cradle 5 VANE 4", "lay 5 1 2", "lay 5 2 2", "lay 5 3 1"};
        Sentences.sentence("16: item by item, STORE at the first that does not belong (missing ones do): those ahead have come",
            Sentences.joined(parts, "copy 4 0 5 0 4 = STORE ~", "lift 5 0 VANE 6", "told 6 SERIAL = 0",
            "lift 5 1 VANE 6", "holds 6 = NONE", "lift 5 2 VANE 6", "told 6 SERIAL = 1", "lift 5 3 VANE 6",
            "told 6 SERIAL = 0"));
        Sentences.sentence("16: STORE at the first that does not belong: the very first", Sentences.joined(parts,
            "copy 4 2 5 0 2 = STORE", "copy 4 2 5 0 1 = STORE", "copy 4 2 5 0 0 = 0", "copy 4 3 5 0 1 = 1"));
        Sentences.sentence("16: INDEX ahead of items that do not belong", Sentences.joined(parts,
            "copy 4 2 5 2 3 = INDEX"));
        Sentences.sentence("16: missing ones do (of a GRID in a CRADLE)", Sentences.joined(parts, "grid 7 2 -1",
            "copy 7 0 5 2 2 = 2", "lift 5 2 VANE 6", "holds 6 = NONE", "lift 5 3 VANE 6", "holds 6 = NONE",
            "lift 5 1 VANE 6", "holds 6 = PART"));
        Sentences.sentence("16: STORE (a ROW in a CRADLE), those ahead have come", Sentences.joined(parts,
            "grid 7 2 -1", "row 8 ints 1", "link 7 1 8", "copy 7 0 5 2 2 = STORE ~", "lift 5 2 VANE 6",
            "holds 6 = NONE", "lift 5 3 VANE 6", "holds 6 = PART"));
        Sentences.sentence("16: STORE (a PART in a GRID), those ahead have come", Sentences.joined(parts, "grid 7 3 1",
            "putAt 7 2 0 5", "copy 4 1 7 1 2 = STORE ~", "getAt 7 1 0 = 0 NOTHING", "getAt 7 2 0 = 5",
            "getAt 7 0 0 = 0"));
    }

    private static void length() {
        Sentences.atLeast("17: ROW (LANE 0 .. 7), GRID (8), CRADLE (9); OUTSIDE", 0, "length 5 #", "2", "OUTSIDE",
            "row 5 bytes 2");
        Sentences.atMost("17: ROW (LANE 0 .. 7), GRID (8), CRADLE (9); OUTSIDE", 9, "length 5 #", "2", "OUTSIDE",
            "cradle 5 CUPS 2");
        Sentences.sentence("17: how many items, none and most", "row 0 ints 0", "length 0 ints = 0", "row 0 ints 30",
            "length 0 ints = 30", "grid 0 0 3", "length 0 GRID = 0", "grid 0 8 -1", "length 0 GRID = 8",
            "cradle 0 CUPS 0", "length 0 CRADLE = 0", "cradle 0 CUPS 8", "length 0 CRADLE = 8");
        for (int as = 0; as < 10; as++) {
            Sentences.furnished("17: CAST (a PART is none of these)", "length 18 " + as + " = CAST");
            Sentences.furnished("17: NOTHING; an EMPTY CASE may be treated as any", "length 0 " + as + " = NOTHING");
            for (int lane = 0; lane < 8; lane++) {
                Sentences.sentence("17: CAST (a ROW of a LANE)", "row 0 " + lane + " 3",
                    "length 0 " + as + " = " + (as == lane ? "3" : "CAST"));
            }
            Sentences.furnished("17: CAST (GRID, CRADLE)", "length 17 " + as + " = " + (as == 8 ? "1" : "CAST"),
                "length 20 " + as + " = " + (as == 9 ? "2" : "CAST"));
        }
        Sentences.furnished("17: UNKNOWN; OUTSIDE; CAST, NOTHING", "length 24 10 = UNKNOWN", "length 18 10 = OUTSIDE",
            "length 0 10 = OUTSIDE", "length 0 -1 = OUTSIDE");
    }

    private static void alikeRows() {
        Sentences.furnished("18: one and the same THING, or both EMPTY: 1", "alike 0 1 = 1", "alike 0 0 = 1",
            "alike 16 16 = 1", "alike 19 21 = 1");
        Sentences.furnished("18: else 0 (one EMPTY)", "alike 0 16 = 0", "alike 16 0 = 0");
        for (int lane = 0; lane < 8; lane++) {
            Sentences.sentence("18: 2: ROWS of a LANE with the same BITS", "row 0 " + lane + " 30",
                "row 1 " + lane + " 30", "alike 0 1 = 2", "put 0 " + lane + " 29 1", "alike 0 1 = 0",
                "put 1 " + lane + " 29 1", "alike 0 1 = 2", "put 1 " + lane + " 0 1", "alike 0 1 = 0",
                "row 0 " + lane + " 0", "row 1 " + lane + " 0", "alike 0 1 = 2", "row 1 " + (lane + 1) % 8 + " 0",
                "alike 0 1 = 0", "row 1 " + lane + " 1", "alike 0 1 = 0", "alike 1 0 = 0");
        }
        Sentences.sentence("18: the same BITS (-0.0 has others, no number has one)", "row 0 doubles 1",
            "row 1 doubles 1", "put 0 doubles 0 -0.0d", "alike 0 1 = 0", "put 0 doubles 0 0x7FF0000000000001",
            "put 1 doubles 0 0xFFF8000000000000", "alike 0 1 = 2", "row 0 floats 1", "row 1 floats 1",
            "put 0 floats 0 0x80000000", "alike 0 1 = 0", "put 0 floats 0 0x7F800001", "put 1 floats 0 0xFFC00000",
            "alike 0 1 = 2");
        Sentences.sentence("18: else 0 (two PARTS)", "part 0 CUPS", "part 1 CUPS", "alike 0 1 = 0");
        Sentences.furnished("18: else 0 (unlike THINGS)", "alike 16 17 = 0", "alike 17 18 = 0", "alike 17 20 = 0",
            "alike 20 17 = 0", "alike 18 16 = 0", "grid 0 0 0", "cradle 1 CUPS 0", "alike 0 1 = 0", "alike 1 0 = 0",
            "row 2 ints 0", "alike 0 2 = 0", "alike 2 1 = 0");
    }

    private static void alikeShelves() {
        Sentences.sentence("18: 2: GRIDS whose ROWS are so", "grid 0 2 2", "grid 1 2 2", "alike 0 1 = 2",
            "putAt 0 1 1 1", "alike 0 1 = 0", "putAt 1 1 1 1", "alike 0 1 = 2", "grid 1 3 2", "alike 0 1 = 0",
            "grid 0 0 1", "grid 1 0 -1", "alike 0 1 = 2", "grid 0 1 1", "grid 1 1 2", "alike 0 1 = 0");
        Sentences.sentence("18: 2: GRIDS, or missing alike", "grid 0 2 -1", "grid 1 2 -1", "alike 0 1 = 2",
            "row 2 ints 0", "link 0 1 2", "alike 0 1 = 0", "alike 1 0 = 0", "link 1 1 2", "alike 0 1 = 2",
            "row 2 ints 0", "link 1 1 2", "alike 0 1 = 2");
        Sentences.sentence("18: 2: CRADLES for a KIND with the same PARTS", "cradle 0 VANE 2", "cradle 1 VANE 2",
            "alike 0 1 = 2", "part 2 VANE", "part 3 VANE", "lay 0 1 2", "alike 0 1 = 0", "alike 1 0 = 0", "lay 1 1 3",
            "alike 0 1 = 0", "lay 1 1 2", "alike 0 1 = 2", "cradle 1 SENSOR 2", "lay 1 1 2", "alike 0 1 = 0",
            "cradle 1 VANE 1", "lay 1 0 2", "alike 0 1 = 0", "cradle 0 VANE 0", "cradle 1 VANE 0", "alike 0 1 = 2",
            "cradle 1 SONIC 0", "alike 0 1 = 0");
    }
}
