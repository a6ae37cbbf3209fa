import java.util.ArrayList;
import java.util.List;

/** Each sentence on plans and acts (promises 25 to 29) that names a boundary: what is let in, what is refused. */
public final class ActsBoundariesTest {
    private ActsBoundariesTest() {
    }

    public static void main(String[] args) {
        stepArguments();
        stepTurbinesAndSlots();
        stepRoom();
        stepOrder();
        drop();
        act();
        take();
        lay();
        write();
        log();
        answers();
        last();
        fail();
        tries();
        finals();
        causes();
        holds();
        fitsByKind();
        fitsInOrder();
        strips();
        deep();
        deepInEach();
        spent();
        spentInEach();
        goesBack();
        goesBackIntoFull();
        isGone();
        undone();
        acted();
        said();
        Sentences.end();
    }

    private static void stepArguments() {
        Sentences.within("25: PLANS 0 .. 9; UNKNOWN: the PLAN", 0, 9, "step # SAY 1 2 3", "1", "UNKNOWN", "drop #");
        Sentences.within("25: OUTSIDE: the OP (0 .. 13)", 0, 13, "step 0 # 0 0 0", "1", "OUTSIDE");
        for (String op : new String[] {"TAKE", "LAY", "WRITE"}) {
            Sentences.within("25: UNKNOWN: a CASE (0 .. 2)", 0, 23, "step 0 " + op + " # -7 -7", "1", "UNKNOWN");
        }
        Sentences.within("25: UNKNOWN: a PLAN that it names (DO a)", 0, 9, "step 0 DO # -7 -7", "1", "UNKNOWN");
        Sentences.within("25: UNKNOWN: a PLAN that it names (TRY a)", 0, 9, "step 0 TRY # 0 0", "1", "UNKNOWN");
        Sentences.within("25: UNKNOWN: a PLAN that it names (TRY c)", 0, 9, "step 0 TRY 0 0 #", "1", "UNKNOWN");
        Sentences.within("25: UNKNOWN: a PLAN that it names (FINALLY a)", 0, 9, "step 0 FINALLY # 0 -7", "1",
            "UNKNOWN");
        Sentences.within("25: UNKNOWN: a PLAN that it names (FINALLY b)", 0, 9, "step 0 FINALLY 0 # -7", "1",
            "UNKNOWN");
        Sentences.within("25: UNKNOWN: a PLAN that it names (HOLD b)", 0, 9, "step 0 HOLDING 0 # -7", "1", "UNKNOWN");
        Sentences.within("25: OUTSIDE: a of 6 (1 to 8)", 1, 8, "step 0 FAIL # -7 -7", "1", "OUTSIDE");
        Sentences.within("25: OUTSIDE: b of 8 (0 .. 8)", 0, 8, "step 0 TRY 0 # 0", "1", "OUTSIDE");
        Sentences.sentence("25: what a STEP does not name may be any number", "step 0 TAKE 0 MIN MAX = 1",
            "step 0 LAY 0 MAX MIN = 2", "step 0 WRITE 0 MIN MAX = 3", "step 0 SAY MIN MAX MIN = 4",
            "step 0 ANSWER MAX MIN MAX = 5", "step 0 SAYLAST MIN MIN MIN = 6", "step 0 FAIL 1 MIN MAX = 7",
            "step 0 DO 0 MIN MAX = 8", "step 0 FINALLY 0 0 MIN = 9", "step 0 HOLDING 0 0 MIN = 10",
            "step 0 WAKE 0 MIN MAX = 11", "step 0 FIT 0 0 MIN = 12", "step 0 STRIP 0 0 MAX = 13");
    }

    private static void stepTurbinesAndSlots() {
        for (String op : new String[] {"HOLDING", "WAKE", "FIT", "STRIP"}) {
            Sentences.within("25: UNKNOWN: a turbine (10 .. 13), of two", 0, 1, "step 0 " + op + " # 0 -7", "1",
                "UNKNOWN");
            Sentences.of("25: UNKNOWN: a turbine (10 .. 13), of one", 1, "step 0 " + op + " 0 0 0 = 1",
                "step 0 " + op + " 1 0 0 = UNKNOWN");
            Sentences.of("25: UNKNOWN: a turbine (10 .. 13), of six", 6, "step 0 " + op + " 5 0 0 = 1",
                "step 0 " + op + " 6 0 0 = UNKNOWN");
        }
        for (String op : new String[] {"FIT", "STRIP"}) {
            Sentences.within("25: UNKNOWN: a SLOT (12, 13)", 0, 4, "step 0 " + op + " 0 # -7", "1", "UNKNOWN");
        }
    }

    private static void stepRoom() {
        Sentences.furnished("25: rows of STEPS, 16 at most, none at first; ROOM", "15 x step 3 SAY 8",
            "step 3 SAY 9 = 16", "step 3 SAY 7 = ROOM", "step 3 FAIL 1 = ROOM", "act 3 = 0", "acted 1 = 16",
            "acted 3 = 16", "said 15 = 9");
        Sentences.sentence("25: a STEP more of a PLAN: how many; each PLAN has its own", "16 x step 3 SAY 8",
            "step 2 SAY 1 = 1", "step 4 SAY 1 = 1", "16 x step 9 SAY 8", "step 9 SAY 1 = ROOM", "16 x step 0 SAY 8",
            "step 0 SAY 1 = ROOM", "step 2 SAY 1 = 2", "step 4 SAY 1 = 2");
        Sentences.sentence("25: ROOM again behind drop", "16 x step 3 SAY 8", "drop 3 = 16", "step 3 SAY 6 = 1",
            "act 3 = 0", "acted 3 = 1", "said 0 = 6");
    }

    private static void stepOrder() {
        Sentences.furnished("25: the PLAN ahead of the OP, the OP ahead of all others", "step 10 14 24 0 0 = UNKNOWN",
            "step -1 -1 -1 -1 -1 = UNKNOWN", "step 0 14 -1 -1 -1 = OUTSIDE", "step 0 -1 -1 -1 -1 = OUTSIDE");
        Sentences.furnished("25: UNKNOWN ahead of OUTSIDE", "step 0 TRY 10 9 0 = UNKNOWN",
            "step 0 TRY 0 9 10 = UNKNOWN", "step 0 TRY 0 9 0 = OUTSIDE");
        Sentences.sentence("25: UNKNOWN, OUTSIDE ahead of ROOM", "16 x step 0 SAY 1", "step 0 TAKE 24 = UNKNOWN",
            "step 0 DO 10 = UNKNOWN", "step 0 FAIL 9 = OUTSIDE", "step 0 TRY 0 9 0 = OUTSIDE", "step 0 14 = OUTSIDE",
            "step 0 FAIL 8 = ROOM");
        Sentences.sentence("25: UNKNOWN: the turbine, or the SLOT", "step 0 FIT 2 0 = UNKNOWN",
            "step 0 FIT 0 5 = UNKNOWN", "step 0 FIT 2 5 = UNKNOWN", "step 0 HOLDING 2 0 = UNKNOWN",
            "step 0 HOLDING 0 10 = UNKNOWN");
    }

    private static void drop() {
        Sentences.atLeast("26: UNKNOWN", 0, "drop #", "0", "UNKNOWN");
        Sentences.atMost("26: UNKNOWN", 9, "drop #", "1", "UNKNOWN");
        Sentences.sentence("26: a PLAN has no STEPS: how many it had", "drop 4 = 0", "16 x step 4 ANSWER 1",
            "step 5 SAY 3", "drop 4 = 16", "drop 4 = 0", "act 4 = 0", "acted 1 = 0", "act 5 = 0", "acted 1 = 1");
    }

    private static void act() {
        Sentences.within("27: UNKNOWN", 0, 9, "act #", "1", "UNKNOWN", "drop #", "step # ANSWER 4");
        Sentences.sentence("27: 1: it ANSWERED", "step 0 ANSWER 4", "act 0 = 1", "acted 0 = 4", "acted 1 = 1");
        Sentences.sentence("27: 0: it came to its end", "step 0 SAY 4", "act 0 = 0", "acted 0 = 0", "acted 1 = 1");
        Sentences.sentence("27: 0: it came to its end (no STEPS)", "act 0 = 0", "acted 0 = 0", "acted 1 = 0",
            "acted 2 = 1");
        for (int failure = 1; failure <= 8; failure++) {
            Sentences.furnished("27: -10 less the FAILURE by which it ended", "step 0 FAIL " + failure,
                "act 0 = " + nameOf(failure));
        }
        Sentences.sentence("27: a refused act is none", "step 0 SAY 4", "step 0 ANSWER 6", "act 0 = 1",
            "act 10 = UNKNOWN", "acted 0 = 6", "said 0 = 4");
    }

    private static String nameOf(int failure) {
        return "NOTHING INDEX SIZE CAST STORE ZERO HOLD DEEP SPENT".split(" ")[failure - 1];
    }

    private static void take() {
        Sentences.furnished("TAKE: NOTHING, if it was EMPTY", "step 0 TAKE 0", "act 0 = NOTHING", "acted 1 = 1");
        Sentences.furnished("TAKE: the CASE is EMPTY then", "step 0 TAKE 16", "step 0 TAKE 16", "act 0 = NOTHING",
            "acted 1 = 2", "holds 16 = ints");
        Sentences.furnished("TAKE of each THING", "step 0 TAKE 16", "step 0 TAKE 17", "step 0 TAKE 18",
            "step 0 TAKE 20", "step 0 LAY 0", "act 0 = 0", "holds 0 = CRADLE", "holds 20 = NONE", "holds 16 = ints",
            "holds 17 = GRID", "holds 18 = PART", "acted 5 = 3");
        Sentences.sentence("TAKE of CASES 0, 23", "part 0 CUPS", "part 23 VANE", "step 0 TAKE 0", "step 0 TAKE 23",
            "step 0 LAY 0", "step 0 LAY 23", "act 0 = 0", "told 0 SERIAL = 1", "told 23 SERIAL = 0", "acted 5 = 0");
        Sentences.furnished("TAKE from one of two CASES with the same THING", "step 0 TAKE 19", "step 0 LAY 0",
            "act 0 = 0", "holds 19 = NONE", "holds 21 = PART", "alike 0 21 = 1");
    }

    private static void lay() {
        Sentences.furnished("LAY: NOTHING: no HAND", "step 0 LAY 0", "act 0 = NOTHING");
        Sentences.furnished("LAY: NOTHING: no HAND any more", "step 0 TAKE 16", "step 0 LAY 0", "step 0 LAY 1",
            "act 0 = NOTHING", "acted 1 = 3");
        Sentences.furnished("LAY: NOTHING ahead of STORE", "step 0 LAY 16", "act 0 = NOTHING");
        Sentences.furnished("LAY: NOTHING: the HAND of an ACT that was undone is gone with it", "step 0 TAKE 16",
            "step 0 FAIL 3", "act 0 = SIZE", "step 1 LAY 0", "act 1 = NOTHING", "act 2 = 0", "acted 5 = 0",
            "holds 16 = ints");
        Sentences.furnished("LAY: NOTHING: what went back is on no HAND", "step 0 TAKE 16", "act 0 = 0", "acted 5 = 1",
            "step 1 LAY 0", "act 1 = NOTHING", "act 2 = 0", "acted 5 = 0", "count 2 = 6");
        Sentences.furnished("LAY: STORE: the CASE is not EMPTY", "step 0 TAKE 16", "step 0 LAY 17", "act 0 = STORE");
        Sentences.furnished("LAY into the CASE that it was taken from", "step 0 TAKE 16", "step 0 LAY 16", "act 0 = 0",
            "acted 5 = 0", "holds 16 = ints");
        Sentences.furnished("LAY: STORE: what was on the HAND stays there", "step 0 TAKE 16", "step 0 TRY 1 5 2",
            "step 0 LAY 0", "step 1 LAY 17", "act 0 = 0", "acted 5 = 0", "holds 0 = ints", "holds 16 = NONE",
            "holds 17 = GRID");
        Sentences.furnished("LAY: the top of the HAND", "step 0 TAKE 16", "step 0 TAKE 17", "step 0 LAY 0",
            "step 0 LAY 1", "act 0 = 0", "holds 0 = GRID", "holds 1 = ints");
    }

    private static void write() {
        Sentences.sentence("WRITE: INDEX: the last of 30", "row 0 ints 30", "step 0 WRITE 0 29 5", "act 0 = 0",
            "get 0 ints 29 = 5", "drop 0", "step 0 WRITE 0 30 5", "act 0 = INDEX");
        Sentences.sentence("WRITE: item b becomes c", "row 0 ints 3", "step 0 WRITE 0 0 MAX", "step 0 WRITE 0 2 MIN",
            "act 0 = 0", "get 0 ints 0 = MAX", "get 0 ints 1 = 0", "get 0 ints 2 = MIN");
        for (String b : new String[] {"-1", "3", "MIN", "MAX"}) {
            Sentences.sentence("WRITE: INDEX", "row 0 ints 3", "put 0 ints 2 6", "step 0 WRITE 0 " + b + " 5",
                "act 0 = INDEX");
        }
        Sentences.sentence("WRITE: INDEX: no items", "row 0 ints 0", "step 0 WRITE 0 0 5", "act 0 = INDEX");
        Sentences.furnished("WRITE: NOTHING (EMPTY)", "step 0 WRITE 0 0 5", "act 0 = NOTHING");
        Sentences.furnished("WRITE: CAST (GRID)", "step 0 WRITE 17 9 5", "act 0 = CAST");
        Sentences.furnished("WRITE: CAST (PART)", "step 0 WRITE 18 9 5", "act 0 = CAST");
        Sentences.furnished("WRITE: CAST (CRADLE)", "step 0 WRITE 20 9 5", "act 0 = CAST");
        for (int lane = 0; lane < 8; lane++) {
            Sentences.sentence("WRITE: CAST ahead of INDEX (ROWS of other LANES)", "row 0 " + lane + " 1",
                "step 0 WRITE 0 1 5", "act 0 = " + (lane == 3 ? "INDEX" : "CAST"));
        }
        Sentences.furnished("WRITE: a CASE that was taken from is EMPTY", "step 0 TAKE 16", "step 0 WRITE 16 0 5",
            "act 0 = NOTHING");
        Sentences.furnished("WRITE: the item of a GRID's ROW, too", "link 17 0 16", "step 0 WRITE 16 0 5", "act 0 = 0",
            "getAt 17 0 0 = 5");
    }

    private static void log() {
        Sentences.sentence("LOG: 60 at most are kept, others are lost", "16 x step 1 SAY 4", "3 x step 0 DO 1",
            "11 x step 0 SAY 5", "act 0 = 0", "acted 3 = 59", "said 58 = 5", "said 59 = 0", "step 0 SAY 6", "act 0 = 0",
            "acted 3 = 60", "said 59 = 6", "said 60 = 0", "step 0 SAY 7", "act 0 = 0", "acted 3 = 61", "said 59 = 6",
            "said 60 = 0", "said 0 = 4");
        Sentences.sentence("LOG: others are lost: WAKE and SAY LAST", "16 x step 1 SAY 4", "3 x step 0 DO 1",
            "12 x step 0 SAY 5", "step 0 SAYLAST", "act 0 = 0", "acted 3 = 61", "said 59 = 5", "said 60 = 0",
            "step 3 WAKE 0", "drop 0", "3 x step 0 DO 1", "12 x step 0 SAY 5",
            "step 0 HOLDING 0 3", "act 0 = 0", "acted 3 = 61", "said 59 = 5", "said 60 = 0");
        Sentences.sentence("LOG: a new one with each ACT", "step 0 SAY 4", "step 0 SAY 5", "step 1 SAY 6", "act 0 = 0",
            "said 1 = 5", "act 1 = 0", "said 0 = 6", "said 1 = 0", "acted 3 = 1", "act 2 = 0", "said 0 = 0",
            "acted 3 = 0");
        Sentences.sentence("SAY: any number", "step 0 SAY MIN", "step 0 SAY MAX", "step 0 SAY 0", "step 0 SAY -1",
            "act 0 = 0", "said 0 = MIN", "said 1 = MAX", "said 2 = 0", "said 3 = -1", "acted 3 = 4");
    }

    private static void answers() {
        for (String a : new String[] {"0", "-1", "-17", "MIN", "MAX"}) {
            Sentences.sentence("ANSWER a: any number", "step 0 ANSWER " + a, "act 0 = 1", "acted 0 = " + a);
        }
        Sentences.sentence("ANSWER: nothing comes behind it", "step 0 ANSWER 5", "step 0 SAY 1", "act 0 = 1",
            "acted 1 = 1", "acted 3 = 0");
        Sentences.sentence("ANSWER in a PIECE is one of the PLAN around (TRY a)", "step 0 TRY 1 0 2", "step 0 SAY 1",
            "step 1 ANSWER 5", "step 2 SAY 2", "act 0 = 1", "acted 0 = 5", "acted 1 = 2", "acted 3 = 0");
        Sentences.sentence("ANSWER in a PIECE is one of the PLAN around (TRY c)", "step 0 TRY 1 0 2", "step 0 SAY 1",
            "step 1 FAIL 2", "step 2 ANSWER 5", "act 0 = 1", "acted 0 = 5", "acted 1 = 3", "acted 3 = 0");
        Sentences.sentence("ANSWER in a PIECE is one of the PLAN around (FINALLY a)", "step 0 FINALLY 1 2",
            "step 0 SAY 1", "step 1 ANSWER 5", "step 2 SAY 2", "act 0 = 1", "acted 0 = 5", "acted 1 = 3", "acted 3 = 1",
            "said 0 = 2");
        Sentences.sentence("ANSWER in a PIECE is one of the PLAN around (FINALLY b)", "step 0 FINALLY 1 2",
            "step 0 SAY 1", "step 1 SAY 2", "step 2 ANSWER 5", "act 0 = 1", "acted 0 = 5", "acted 1 = 3",
            "acted 3 = 1");
        Sentences.sentence("ANSWER in a PIECE is one of the PLAN around (HOLD)", "step 0 HOLDING 0 1", "step 0 SAY 1",
            "step 1 ANSWER 5", "act 0 = 1", "acted 0 = 5", "acted 1 = 2", "acted 3 = 0");
        Sentences.sentence("ANSWER in a PIECE within a DO is LAST alone", "step 0 DO 1", "step 0 SAYLAST",
            "step 1 HOLDING 0 2", "step 1 SAY 1", "step 2 ANSWER 5", "act 0 = 0", "acted 0 = 0", "acted 3 = 1",
            "said 0 = 5");
        Sentences.sentence("ANSWER: of an ACT that ended by a FAILURE 0", "step 0 FINALLY 1 2", "step 1 ANSWER 5",
            "step 2 FAIL 4", "act 0 = CAST", "acted 0 = 0");
    }

    private static void last() {
        Sentences.sentence("LAST (0)", "step 0 SAYLAST", "act 0 = 0", "said 0 = 0", "acted 3 = 1");
        Sentences.sentence("DO a: if it ANSWERS, that is LAST", "step 0 DO 1", "step 0 SAYLAST", "step 1 ANSWER -8",
            "act 0 = 0", "said 0 = -8", "acted 0 = 0", "acted 1 = 3");
        Sentences.sentence("DO a: if it does not ANSWER, LAST stays", "step 0 DO 1", "step 0 DO 2", "step 0 DO 3",
            "step 0 SAYLAST", "step 1 ANSWER 8", "step 2 SAY 1", "act 0 = 0", "said 1 = 8");
        Sentences.sentence("LAST is one of the ACT (seen within, kept behind)", "step 0 DO 1", "step 0 DO 2",
            "step 0 SAYLAST", "step 1 ANSWER 8", "step 2 SAYLAST", "step 2 DO 3", "step 3 ANSWER 9", "act 0 = 0",
            "said 0 = 8", "said 1 = 9");
        Sentences.sentence("LAST (0) at the beginning of each ACT", "step 0 DO 1", "step 1 ANSWER 8", "step 2 SAYLAST",
            "act 0 = 0", "act 2 = 0", "said 0 = 0");
        Sentences.sentence("DO a: LAST of an ANSWER 0", "step 0 DO 1", "step 0 DO 2", "step 0 SAYLAST",
            "step 1 ANSWER 8", "step 2 ANSWER 0", "act 0 = 0", "said 0 = 0");
        Sentences.sentence("DO a: a FAILURE goes on", "step 0 DO 1", "step 0 SAY 1", "step 1 FAIL 3", "act 0 = SIZE",
            "acted 1 = 2", "acted 3 = 0");
    }

    private static void fail() {
        for (int failure = 1; failure <= 8; failure++) {
            Sentences.sentence("FAIL a (1 to 8): that FAILURE; nothing comes behind it", "step 0 SAY 1",
                "step 0 FAIL " + failure, "step 0 SAY 2", "act 0 = " + nameOf(failure), "acted 1 = 2", "acted 3 = 1",
                "acted 4 = 0", "acted 2 = 1");
        }
    }

    private static void tries() {
        for (int failure = 1; failure <= 8; failure++) {
            for (int b = 0; b <= 8; b++) {
                boolean caught = b == 0 || b == failure;
                Sentences.sentence("TRY: if it ends by FAILURE b (0: any), PLAN c in its stead",
                    "step 0 TRY 1 " + b + " 2", "step 0 SAY 3", "step 1 FAIL " + failure, "step 1 SAY 1",
                    "step 2 SAY 2", "act 0 = " + (caught ? "0" : nameOf(failure)), "acted 3 = " + (caught ? 2 : 0),
                    "said 0 = " + (caught ? 2 : 0), "said 1 = " + (caught ? 3 : 0), "acted 4 = 0");
            }
        }
        Sentences.sentence("TRY: PLAN c not, if PLAN a comes to its end", "step 0 TRY 1 0 2", "step 0 SAY 3",
            "step 1 SAY 1", "step 2 SAY 2", "act 0 = 0", "acted 3 = 2", "said 1 = 3");
        Sentences.sentence("TRY: PLAN a without STEPS", "step 0 TRY 1 0 2", "step 0 SAY 3", "step 2 SAY 2", "act 0 = 0",
            "acted 3 = 1", "acted 2 = 2");
        Sentences.sentence("TRY: PLAN c ends by a FAILURE", "step 0 TRY 1 0 2", "step 1 FAIL 3", "step 2 FAIL 4",
            "act 0 = CAST", "acted 4 = 0", "acted 1 = 3");
        Sentences.sentence("TRY: PLAN c in its stead, not tried itself", "step 0 TRY 1 3 1", "step 1 FAIL 3",
            "act 0 = SIZE", "acted 1 = 3");
        Sentences.sentence("TRY: a FAILURE of a PLAN within PLAN a", "step 0 TRY 1 3 2", "step 1 DO 3", "step 2 SAY 2",
            "step 3 FAIL 3", "act 0 = 0", "said 0 = 2");
        Sentences.sentence("TRY: what was caught is not undone", "row 0 ints 1", "part 1 CUPS", "step 0 TRY 1 1 2",
            "step 0 LAY 5", "step 1 WRITE 0 0 7", "step 1 TAKE 1", "step 1 FAIL 1", "act 0 = 0", "get 0 ints 0 = 7",
            "holds 1 = NONE", "holds 5 = PART");
    }

    private static void finals() {
        Sentences.sentence("FINALLY: PLAN a; then PLAN b", "step 0 FINALLY 1 2", "step 0 SAY 3", "step 1 SAY 1",
            "step 2 SAY 2", "act 0 = 0", "said 0 = 1", "said 1 = 2", "said 2 = 3", "acted 3 = 3");
        Sentences.sentence("FINALLY: of PLANS without STEPS", "step 0 FINALLY 1 2", "step 0 SAY 3", "act 0 = 0",
            "acted 1 = 2", "acted 2 = 2", "acted 4 = 0");
        Sentences.sentence("FINALLY: however that ended (a FAILURE)", "step 0 FINALLY 1 2", "step 0 SAY 3",
            "step 1 FAIL 2", "step 2 SAY 2", "act 0 = INDEX", "acted 3 = 1", "said 0 = 2", "acted 4 = 0");
        Sentences.sentence("FINALLY: however that ended (an ANSWER)", "step 0 FINALLY 1 2", "step 0 SAY 3",
            "step 1 ANSWER 6", "step 2 SAY 2", "act 0 = 1", "acted 0 = 6", "acted 3 = 1", "said 0 = 2");
        Sentences.sentence("FINALLY: an ANSWER of a stands, though b does PLANS that ANSWER", "step 0 FINALLY 1 2",
            "step 1 ANSWER 6", "step 2 DO 3", "step 2 SAYLAST", "step 3 ANSWER 9", "act 0 = 1", "acted 0 = 6",
            "said 0 = 9");
        Sentences.sentence("FINALLY: an ANSWER of b puts aside an ANSWER of a", "step 0 FINALLY 1 2", "step 1 ANSWER 6",
            "step 2 ANSWER 7", "act 0 = 1", "acted 0 = 7", "acted 4 = 0");
        Sentences.sentence("FINALLY: a FAILURE of b puts aside an ANSWER of a", "step 0 FINALLY 1 2", "step 1 ANSWER 6",
            "step 2 FAIL 7", "act 0 = HOLD", "acted 0 = 0", "acted 4 = 0");
        Sentences.sentence("FINALLY: a FAILURE of b alone", "step 0 FINALLY 1 2", "step 1 SAY 6", "step 2 FAIL 7",
            "act 0 = HOLD", "acted 4 = 0");
        Sentences.sentence("FINALLY: a FAILURE of a goes on behind b, to be tried", "step 0 TRY 1 2 4",
            "step 1 FINALLY 2 3", "step 1 SAY 1", "step 2 FAIL 2", "step 3 SAY 3", "step 4 SAY 4", "act 0 = 0",
            "acted 3 = 2", "said 0 = 3", "said 1 = 4", "acted 4 = 0");
        Sentences.sentence("FINALLY: what was put aside is not tried", "step 0 TRY 1 2 4", "step 1 FINALLY 2 3",
            "step 2 FAIL 2", "step 3 FAIL 5", "step 4 SAY 4", "act 0 = STORE", "acted 3 = 0", "acted 4 = 2");
    }

    private static void causes() {
        for (int failure = 1; failure <= 8; failure++) {
            Sentences.sentence("a FAILURE so put aside is the CAUSE (by an ANSWER)", "step 0 FINALLY 1 2",
                "step 1 FAIL " + failure, "step 2 ANSWER 7", "act 0 = 1", "acted 0 = 7", "acted 4 = " + failure);
            Sentences.sentence("a FAILURE so put aside is the CAUSE (by a FAILURE)", "step 0 FINALLY 1 2",
                "step 1 FAIL " + failure, "step 2 FAIL 3", "act 0 = SIZE", "acted 4 = " + failure);
        }
        Sentences.sentence("the CAUSE, the latest (one behind another)", "step 0 TRY 1 0 9", "step 0 FINALLY 4 5",
            "step 1 FINALLY 2 3", "step 2 FAIL 1", "step 3 FAIL 2", "step 4 FAIL 4", "step 5 ANSWER 1", "act 0 = 1",
            "acted 4 = 4");
        Sentences.sentence("the CAUSE, the latest (b's own ahead of a's)", "step 0 FINALLY 1 2", "step 1 FAIL 6",
            "step 2 FINALLY 3 4", "step 3 FAIL 5", "step 4 ANSWER 1", "act 0 = 1", "acted 4 = 6");
        Sentences.sentence("the CAUSE (0: none), of each ACT anew", "step 0 FINALLY 1 2", "step 1 FAIL 6",
            "step 2 ANSWER 3", "act 0 = 1", "acted 4 = 6", "act 3 = 0", "acted 4 = 0");
    }

    private static void holds() {
        Sentences.furnished("WAKE: HOLD, unless the ROTOR is held", "step 0 WAKE 0", "act 0 = HOLD", "acted 3 = 0");
        Sentences.sentence("WAKE: else it is said how often", "step 0 HOLDING 0 1", "step 1 WAKE 0", "act 0 = 0",
            "acted 3 = 1", "said 0 = 1");
        Sentences.sentence("HOLD: the ROTOR of turbine a, of no other", "step 0 HOLDING 0 1", "step 1 WAKE 1",
            "act 0 = HOLD", "drop 1", "step 1 HOLDING 1 2", "step 2 WAKE 0", "step 2 WAKE 1", "act 0 = 0", "said 0 = 1",
            "said 1 = 1");
        Sentences.sentence("HOLD: by one more, as often as PLANS go", "step 0 HOLDING 0 1", "step 1 HOLDING 0 2",
            "step 2 HOLDING 0 3", "step 3 HOLDING 0 4", "step 4 HOLDING 0 5", "step 5 HOLDING 0 6",
            "step 6 HOLDING 0 7", "step 7 WAKE 0", "act 0 = 0", "said 0 = 7", "acted 2 = 8");
        Sentences.sentence("HOLD: no more behind its PLAN (to the end)", "step 0 HOLDING 0 1", "step 0 WAKE 0",
            "act 0 = HOLD", "acted 1 = 2");
        Sentences.sentence("HOLD: no more behind its PLAN (of two, one)", "step 0 HOLDING 0 1", "step 1 HOLDING 0 2",
            "step 1 WAKE 0", "step 2 WAKE 0", "act 0 = 0", "said 0 = 2", "said 1 = 1");
        Sentences.sentence("HOLD: however it ends (ANSWER)", "step 0 DO 1", "step 0 WAKE 0", "step 1 HOLDING 0 2",
            "step 2 ANSWER 1", "act 0 = HOLD", "acted 1 = 4");
        Sentences.sentence("HOLD: however it ends (FAILURE)", "step 0 TRY 1 6 3", "step 0 WAKE 0", "step 1 HOLDING 0 2",
            "step 2 FAIL 6", "act 0 = HOLD", "acted 1 = 4");
        Sentences.sentence("a ROTOR (held by 0 between calls), behind a FAILURE", "step 0 HOLDING 0 1", "step 1 FAIL 6",
            "act 0 = ZERO", "step 2 WAKE 0", "act 2 = HOLD");
        Sentences.sentence("a ROTOR (held by 0 between calls), behind an ANSWER", "step 0 HOLDING 0 1",
            "step 1 ANSWER 6", "act 0 = 1", "step 2 WAKE 0", "act 2 = HOLD");
        Sentences.sentence("a ROTOR (held by 0 between calls), behind DEEP", "step 0 HOLDING 0 0", "act 0 = DEEP",
            "step 2 WAKE 0", "act 2 = HOLD");
        Sentences.sentence("a ROTOR (held by 0 between calls), behind SPENT", "16 x step 1 SAY 1", "16 x step 0 DO 1",
            "step 2 HOLDING 0 0", "act 2 = SPENT", "step 3 WAKE 0", "act 3 = HOLD");
        Sentences.sentence("a ROTOR held keeps the FAILURE of its PLAN", "step 0 HOLDING 1 1", "step 0 SAY 1",
            "step 1 FAIL 4", "act 0 = CAST", "acted 3 = 0");
    }

    private static void fitsByKind() {
        String[] fits = {"0 1 2", "0 1 2", "0 1 2", "3 4", "5 6"};
        for (int slot = 0; slot < 5; slot++) {
            for (int kind = 0; kind < 7; kind++) {
                boolean is = fits[slot].contains(Integer.toString(kind));
                Sentences.sentence("FIT: CAST: it is not OF SENSOR (b 0 .. 2), DRIVE (3), BLADE (4)", "part 0 " + kind,
                    "step 0 TAKE 0", "step 0 HOLDING 1 1", "step 1 FIT 1 " + slot, "act 0 = " + (is ? "0" : "CAST"),
                    "of 1 " + (8 + slot) + " = " + (is ? "0" : "NONE"), "holds 0 = " + (is ? "NONE" : "PART"),
                    "of 0 " + (8 + slot) + " = NONE");
            }
            for (int thing = 16; thing <= 20; thing += thing == 17 ? 3 : 1) {
                Sentences.furnished("FIT: CAST: it is no PART", "step 0 TAKE " + thing, "step 0 HOLDING 1 1",
                    "step 1 FIT 1 " + slot, "act 0 = CAST");
            }
        }
    }

    private static void fitsInOrder() {
        for (int slot = 0; slot < 3; slot++) {
            Sentences.sentence("FIT: HOLD, if the ROTOR is not held and b is above 2 (0 .. 2 are not)", "part 0 CUPS",
                "step 0 TAKE 0", "step 0 FIT 0 " + slot, "act 0 = 0", "of 0 " + (8 + slot) + " = 0",
                "of 1 " + (8 + slot) + " = NONE");
        }
        Sentences.furnished("FIT: HOLD (SLOT 3)", "part 0 DRIVE", "step 0 TAKE 0", "step 0 FIT 0 3", "act 0 = HOLD");
        Sentences.furnished("FIT: HOLD (SLOT 4)", "part 0 BLADE", "step 0 TAKE 0", "step 0 FIT 0 4", "act 0 = HOLD");
        Sentences.furnished("FIT: HOLD (another ROTOR is held)", "part 0 BLADE", "step 0 TAKE 0", "step 0 HOLDING 0 1",
            "step 1 FIT 1 4", "act 0 = HOLD");
        Sentences.furnished("FIT: HOLD ahead of NOTHING", "step 0 FIT 0 3", "act 0 = HOLD");
        Sentences.furnished("FIT: HOLD ahead of CAST", "step 0 TAKE 16", "step 0 FIT 0 4", "act 0 = HOLD");
        Sentences.furnished("FIT: NOTHING (no HAND)", "step 0 FIT 0 0", "act 0 = NOTHING");
        Sentences.furnished("FIT: NOTHING (no HAND, held)", "step 0 HOLDING 0 1", "step 1 FIT 0 3", "act 0 = NOTHING");
        Sentences.furnished("FIT: NOTHING (no HAND any more)", "step 0 TAKE 19", "step 0 FIT 1 0", "step 0 FIT 1 1",
            "act 0 = NOTHING");
        Sentences.furnished("FIT: CAST leaves it on the HAND", "step 0 TAKE 16", "step 0 TRY 1 4 2", "step 0 LAY 0",
            "step 1 FIT 0 0", "act 0 = 0", "holds 0 = ints", "acted 5 = 0");
        Sentences.furnished("FIT: what was there comes on the HAND in its stead", "step 0 TAKE 19", "step 0 FIT 0 1",
            "step 0 LAY 0", "act 0 = 0", "of 0 9 = 1", "told 0 SERIAL = 2", "acted 5 = 0", "holds 19 = NONE");
        Sentences.furnished("FIT: if something was (nothing comes from a bare SLOT)", "step 0 TAKE 19",
            "step 0 FIT 0 0", "step 0 LAY 0", "act 0 = NOTHING");
        Sentences.furnished("FIT: what was there is taken from CASE 23", "step 0 TAKE 19", "step 0 FIT 0 1",
            "act 0 = 0", "told 23 SERIAL = 2", "acted 5 = 1", "holds 19 = NONE");
        Sentences.furnished("FIT: taken from CASE 23, which holds something", "row 23 ints 1", "row 0 ints 1",
            "step 0 TAKE 19", "step 0 FIT 0 1", "act 0 = 0", "holds 23 = ints", "told 1 SERIAL = 2", "acted 5 = 1");
        Sentences.furnished("FIT: the same PART in two SLOTS", "step 0 TAKE 19", "step 0 FIT 1 0", "step 0 TAKE 21",
            "step 0 FIT 1 1", "act 0 = 0", "of 1 8 = 1", "of 1 9 = 1");
    }

    private static void strips() {
        Sentences.furnished("STRIP: NOTHING (a bare SLOT)", "step 0 STRIP 0 0", "act 0 = NOTHING");
        Sentences.furnished("STRIP: NOTHING (a bare SLOT, held)", "step 0 HOLDING 0 1", "step 1 STRIP 0 4",
            "act 0 = NOTHING");
        Sentences.furnished("STRIP: HOLD as 12, ahead of NOTHING (SLOT 3)", "step 0 STRIP 0 3", "act 0 = HOLD");
        Sentences.furnished("STRIP: HOLD as 12, ahead of NOTHING (SLOT 4)", "step 0 STRIP 0 4", "act 0 = HOLD");
        Sentences.furnished("STRIP: HOLD as 12 (another ROTOR is held)", "fit 1 3 DRIVE", "step 0 HOLDING 0 1",
            "step 1 STRIP 1 3", "act 0 = HOLD");
        Sentences.furnished("STRIP: SLOT 2 without HOLD", "step 0 STRIP 1 2", "act 0 = 0", "of 1 10 = NONE",
            "told 23 SERIAL = 1");
        Sentences.furnished("STRIP: SLOT 3 with HOLD", "fit 1 3 DRIVE", "step 0 HOLDING 1 1", "step 1 STRIP 1 3",
            "act 0 = 0", "of 1 11 = NONE", "told 23 SERIAL = 3", "acted 5 = 1");
        Sentences.furnished("STRIP: what is in SLOT b comes on the HAND", "step 0 STRIP 0 1", "step 0 LAY 0",
            "act 0 = 0", "of 0 9 = NONE", "told 0 SERIAL = 2", "acted 5 = 0");
        Sentences.furnished("STRIP: twice", "step 0 STRIP 0 1", "step 0 STRIP 0 1", "act 0 = NOTHING", "of 0 9 = 2");
        Sentences.furnished("STRIP: from CASE 23, which holds something", "row 23 ints 1", "step 0 STRIP 0 1",
            "act 0 = 0", "holds 23 = ints", "told 0 SERIAL = 2", "acted 5 = 1");
    }

    /** Plans 0 to 6, each doing the next, so that plan 7 is the eighth. */
    private static final String[] SEVEN = {"step 0 DO 1", "step 1 DO 2", "step 2 DO 3", "step 3 DO 4", "step 4 DO 5",
        "step 5 DO 6", "step 6 DO 7"};

    private static void deep() {
        Sentences.sentence("DEEP: the eighth PLAN begins", Sentences.joined(SEVEN, "act 0 = 0", "acted 2 = 8",
            "acted 1 = 7"));
        Sentences.sentence("DEEP: a ninth PLAN within one another would begin (even without STEPS)",
            Sentences.joined(SEVEN, "step 7 DO 8", "act 0 = DEEP", "acted 2 = 8", "acted 1 = 8", "acted 4 = 0"));
        Sentences.sentence("DEEP: the ACT's the first", Sentences.joined(SEVEN, "step 7 DO 8", "act 1 = 0",
            "acted 2 = 8"));
        Sentences.sentence("DEEP: within one another, not one behind another", "16 x step 0 DO 1", "act 0 = 0",
            "acted 2 = 2", "acted 1 = 16");
        Sentences.sentence("DEEP: a PLAN of itself", "step 0 DO 0", "act 0 = DEEP", "acted 1 = 8", "acted 2 = 8");
        Sentences.sentence("DEEP: SAY at the eighth", Sentences.joined(SEVEN, "step 7 SAY 5", "step 7 ANSWER 6",
            "act 0 = 0", "said 0 = 5", "acted 1 = 9"));
        Sentences.sentence("DEEP is tried by those above", Sentences.joined(SEVEN, "drop 6", "step 6 TRY 7 8 9",
            "step 7 DO 8", "step 9 SAY 4", "act 0 = 0", "said 0 = 4", "acted 2 = 8"));
        Sentences.sentence("acted 2: how deep PLANS were at most, behind all", "step 0 DO 1", "step 0 SAY 1",
            "step 1 DO 2", "act 0 = 0", "acted 2 = 3", "act 2 = 0", "acted 2 = 1");
    }

    private static void deepInEach() {
        Sentences.sentence("DEEP: by TRY (PLAN c in its stead cannot begin, either)", Sentences.joined(SEVEN,
            "step 7 TRY 8 8 9", "act 0 = DEEP", "acted 1 = 8"));
        Sentences.sentence("DEEP: by TRY of another FAILURE", Sentences.joined(SEVEN, "step 7 TRY 8 7 9",
            "act 0 = DEEP", "acted 1 = 8"));
        Sentences.sentence("DEEP: by FINALLY (or if it could not begin, PLAN b, which cannot, either)",
            Sentences.joined(SEVEN, "step 7 FINALLY 8 9", "act 0 = DEEP", "acted 1 = 8", "acted 4 = 8"));
        Sentences.sentence("DEEP: by HOLD", Sentences.joined(SEVEN, "step 7 HOLDING 0 9", "act 0 = DEEP",
            "acted 1 = 8"));
        Sentences.sentence("DEEP: FINALLY above does PLAN b", Sentences.joined(SEVEN, "drop 6", "step 6 FINALLY 7 9",
            "step 7 DO 8", "step 9 SAY 4", "act 0 = DEEP", "said 0 = 4", "acted 4 = 0"));
        Sentences.sentence("DEEP: PIECES count as PLANS within one another", "step 0 TRY 1 1 9", "step 1 FINALLY 2 9",
            "step 2 HOLDING 0 3", "step 3 TRY 4 1 9", "step 4 FINALLY 5 9", "step 5 HOLDING 0 6", "step 6 DO 7",
            "act 0 = 0", "acted 2 = 8", "step 7 DO 8", "act 0 = DEEP", "acted 2 = 8");
    }

    /** Plan 5 does 99 steps: 9 of its own, 90 of plan 6. */
    private static String[] ninetyNine() {
        List<String> rows = new ArrayList<>();
        rows.add("15 x step 6 SAY 6");
        rows.add("6 x step 5 DO 6");
        rows.add("3 x step 5 SAY 5");
        return rows.toArray(new String[0]);
    }

    private static void spent() {
        Sentences.sentence("SPENT: 99 STEPS begin", Sentences.joined(ninetyNine(), "act 5 = 0", "acted 1 = 99"));
        Sentences.sentence("SPENT: the 100th STEP begins", Sentences.joined(ninetyNine(), "step 5 ANSWER 8",
            "act 5 = 1", "acted 1 = 100", "acted 0 = 8"));
        Sentences.sentence("SPENT: the 101st STEP would begin", Sentences.joined(ninetyNine(), "step 5 SAY 8",
            "step 5 SAY 9", "act 5 = SPENT", "acted 1 = 100", "acted 3 = 94", "acted 4 = 0"));
        Sentences.sentence("SPENT: no 101st in a PLAN without STEPS", Sentences.joined(ninetyNine(), "step 5 DO 4",
            "act 5 = 0", "acted 1 = 100"));
        Sentences.sentence("SPENT: the 101st in a PLAN that the 100th does", Sentences.joined(ninetyNine(),
            "step 5 DO 4", "step 4 SAY 1", "act 5 = SPENT", "acted 1 = 100", "acted 2 = 2"));
        Sentences.sentence("SPENT: a FAILURE at the 100th", Sentences.joined(ninetyNine(), "step 5 FAIL 2",
            "step 5 SAY 1", "act 5 = INDEX", "acted 1 = 100"));
        Sentences.sentence("SPENT: it is undone", Sentences.joined(ninetyNine(), "row 0 ints 1", "part 1 CUPS",
            "step 4 WRITE 0 0 5", "step 4 TAKE 1", "step 4 DO 5", "act 4 = SPENT", "get 0 ints 0 = 0", "holds 1 = PART",
            "acted 5 = 0"));
    }

    private static void spentInEach() {
        Sentences.sentence("TRY: never by SPENT (b 0)", Sentences.joined(ninetyNine(), "step 5 SAY 1",
            "step 0 TRY 5 0 9", "act 0 = SPENT", "acted 1 = 100", "step 9 SAY 3", "act 0 = SPENT"));
        Sentences.sentence("TRY: the 101st in PLAN c", Sentences.joined(ninetyNine(), "drop 5", "6 x step 5 DO 6",
            "step 5 SAY 1", "step 5 SAY 1", "step 5 FAIL 4", "step 0 TRY 5 4 9", "act 0 = 0", "acted 1 = 100",
            "step 9 SAY 3", "act 0 = SPENT", "acted 1 = 100"));
        Sentences.sentence("FINALLY: but for SPENT (PLAN b without STEPS is not done, either)",
            Sentences.joined(ninetyNine(), "step 5 SAY 1", "step 0 FINALLY 5 9", "act 0 = SPENT", "acted 1 = 100",
            "acted 4 = 0", "step 9 FAIL 3", "act 0 = SPENT", "acted 4 = 0"));
        Sentences.sentence("FINALLY: SPENT in PLAN b puts aside what a ended with", Sentences.joined(ninetyNine(),
            "step 0 FINALLY 1 5", "step 1 FAIL 2", "act 0 = SPENT", "acted 1 = 100", "acted 4 = 2"));
        Sentences.sentence("FINALLY: PLAN b goes up to the 100th", Sentences.joined(ninetyNine(), "drop 5",
            "6 x step 5 DO 6", "step 5 SAY 1", "step 5 SAY 2", "step 0 FINALLY 1 5", "step 1 FAIL 2", "act 0 = INDEX",
            "acted 1 = 100", "acted 4 = 0"));
        Sentences.sentence("DO, HOLD: SPENT goes on", Sentences.joined(ninetyNine(), "step 0 HOLDING 0 1",
            "step 1 DO 5", "act 0 = SPENT", "acted 1 = 100"));
        Sentences.sentence("SPENT: of each ACT anew", Sentences.joined(ninetyNine(), "act 5 = 0", "act 5 = 0",
            "acted 1 = 99"));
    }

    private static void goesBack() {
        Sentences.furnished("what is on the HAND goes back into the CASE that it was taken from", "step 0 TAKE 16",
            "step 0 TAKE 18", "act 0 = 0", "acted 5 = 2", "holds 16 = ints", "told 18 SERIAL = 0", "count 2 = 6");
        Sentences.furnished("goes back behind an ANSWER, too", "step 0 TAKE 16", "step 0 ANSWER 4", "act 0 = 1",
            "acted 5 = 1", "holds 16 = ints");
        Sentences.furnished("nothing on the HAND: none went back", "step 0 SAY 1", "act 0 = 0", "acted 5 = 0");
        Sentences.sentence("goes back, the last first", "part 0 CUPS", "part 1 VANE", "step 0 TAKE 1", "step 0 TAKE 0",
            "step 0 LAY 1", "step 0 TAKE 1", "act 0 = 0", "told 1 SERIAL = 0", "told 0 SERIAL = 1", "acted 5 = 2");
        Sentences.sentence("if that holds something, the least EMPTY one", "part 5 CUPS", "part 6 VANE", "row 0 ints 1",
            "row 1 ints 1", "step 0 TAKE 5", "step 0 TAKE 6", "step 0 LAY 5", "act 0 = 0", "told 5 SERIAL = 1",
            "told 2 SERIAL = 0", "holds 6 = NONE", "acted 5 = 1");
        Sentences.sentence("the least EMPTY one is CASE 0", "part 5 CUPS", "part 6 VANE", "step 0 TAKE 5",
            "step 0 TAKE 6", "step 0 LAY 5", "act 0 = 0", "told 0 SERIAL = 0", "acted 5 = 1");
    }

    /** A part in each case, with the case's number as its serial. */
    private static String[] full(int cases) {
        String[] rows = new String[cases];
        for (int c = 0; c < cases; c++) {
            rows[c] = "part " + c + " CUPS";
        }
        return rows;
    }

    private static void goesBackIntoFull() {
        Sentences.sentence("the least EMPTY one is CASE 23", Sentences.joined(full(23), "step 0 TAKE 5",
            "step 0 FIT 0 0", "act 0 = 0", "row 5 ints 1", "step 1 STRIP 0 0", "act 1 = 0", "told 23 SERIAL = 5",
            "acted 5 = 1"));
        Sentences.sentence("the least EMPTY one is CASE 22, taken from CASE 23", Sentences.joined(full(22),
            "row 23 ints 1", "step 0 TAKE 5", "step 0 FIT 0 0", "act 0 = 0", "row 5 ints 1", "step 1 STRIP 0 0",
            "act 1 = 0", "told 22 SERIAL = 5", "holds 23 = ints", "acted 5 = 1"));
        Sentences.sentence("the least EMPTY one, which the last has left", Sentences.joined(full(24), "step 0 TAKE 9",
            "step 0 TAKE 7", "step 0 LAY 9", "act 0 = 0", "told 9 SERIAL = 7", "told 7 SERIAL = 9", "acted 5 = 1"));
        String[] all = full(24);
        for (int c = 0; c < 24; c++) {
            all = Sentences.joined(all, "step " + (c < 12 ? 1 : 2) + " TAKE " + c);
        }
        Sentences.sentence("all CASES taken, all go back", Sentences.joined(all, "step 0 DO 1", "step 0 DO 2",
            "act 0 = 0", "acted 5 = 24", "acted 1 = 26", "told 0 SERIAL = 0", "told 23 SERIAL = 23", "count 2 = 24"));
    }

    private static void isGone() {
        String[] slots = {"fit 0 0 CUPS", "fit 0 1 VANE"};
        String[] filled = new String[24];
        for (int c = 0; c < 24; c++) {
            filled[c] = "row " + c + " ints " + c % 4;
        }
        Sentences.sentence("no EMPTY one: it is gone", Sentences.joined(Sentences.joined(slots, filled),
            "step 0 STRIP 0 0", "act 0 = 0", "of 0 8 = NONE", "acted 5 = 0", "count 2 = 24", "length 0 ints = 0",
            "length 23 ints = 3", "count 1 = 2"));
        Sentences.sentence("one EMPTY one: the last of two goes there, the first is gone",
            Sentences.joined(Sentences.joined(slots, filled), "clear 4", "step 0 STRIP 0 0", "step 0 STRIP 0 1",
            "act 0 = 0", "told 4 SERIAL = 1", "acted 5 = 1", "of 0 8 = NONE", "of 0 9 = NONE", "count 2 = 24"));
        Sentences.sentence("no EMPTY one, but undone: it is not gone", Sentences.joined(Sentences.joined(slots, filled),
            "step 0 STRIP 0 0", "step 0 FAIL 1", "act 0 = NOTHING", "of 0 8 = 0"));
    }

    private static void undone() {
        for (int failure = 1; failure <= 8; failure++) {
            Sentences.furnished("One that ends by a FAILURE is undone: CASES, items written, SLOTS",
                "step 0 WRITE 16 0 5", "step 0 TAKE 16", "step 0 LAY 0", "step 0 WRITE 0 1 6", "step 0 TAKE 19",
                "step 0 FIT 0 1", "step 0 LAY 1", "step 0 TAKE 20", "step 0 SAY 3", "step 0 FAIL " + failure,
                "act 0 = " + nameOf(failure), "get 16 ints 0 = 0", "get 16 ints 1 = 7", "holds 0 = NONE",
                "holds 1 = NONE", "of 0 9 = 2", "told 19 SERIAL = 1", "holds 20 = CRADLE", "acted 5 = 0", "acted 3 = 1",
                "said 0 = 3");
        }
        Sentences.furnished("undone: an item written more than once", "step 0 WRITE 16 1 5", "step 0 WRITE 16 1 6",
            "step 0 WRITE 16 1 7", "step 0 FAIL 1", "act 0 = NOTHING", "get 16 ints 1 = 7");
        Sentences.furnished("undone: an item of a ROW that the ACT has taken, and a GRID has, too", "link 17 0 16",
            "step 0 WRITE 16 1 5", "step 0 TAKE 16", "step 0 FAIL 1", "act 0 = NOTHING", "getAt 17 0 1 = 7",
            "get 16 ints 1 = 7");
        Sentences.furnished("undone: SLOTS that were stripped", "fit 1 4 HEAVY", "step 0 HOLDING 1 1",
            "step 1 STRIP 1 4", "step 1 LAY 0", "step 1 STRIP 0 1", "step 1 FAIL 3", "act 0 = SIZE", "of 1 12 = 3",
            "of 0 9 = 2", "holds 0 = NONE");
        Sentences.furnished("undone: SLOTS that were bare", "step 0 TAKE 19", "step 0 FIT 1 1", "step 0 FAIL 3",
            "act 0 = SIZE", "of 1 9 = NONE");
        Sentences.of("undone: SLOTS of the last turbine", 6, "fit 5 4 BLADE", "fit 5 0 CUPS", "step 0 HOLDING 5 1",
            "step 1 STRIP 5 4", "step 1 STRIP 5 0", "step 1 FAIL 3", "act 0 = SIZE", "of 5 12 = 0", "of 5 8 = 1");
        Sentences.furnished("not undone, if the FAILURE was tried or put aside", "step 0 FINALLY 1 2",
            "step 1 WRITE 16 0 5", "step 1 FAIL 2", "step 2 ANSWER 3", "act 0 = 1", "get 16 ints 0 = 5");
        Sentences.sentence("undone as ahead of it, not as ahead of an earlier one", "row 0 ints 2",
            "step 0 WRITE 0 0 5", "act 0 = 0", "put 0 ints 1 9", "step 1 WRITE 0 0 6", "step 1 WRITE 0 1 6",
            "step 1 FAIL 2", "act 1 = INDEX", "get 0 ints 0 = 5", "get 0 ints 1 = 9");
    }

    private static void acted() {
        Sentences.atLeast("28: 0 .. 5; OUTSIDE", 0, "acted #", "9", "OUTSIDE", "act 7");
        Sentences.atMost("28: 0 .. 5; OUTSIDE", 5, "acted #", "0", "OUTSIDE", "act 7");
        for (int what = 0; what < 6; what++) {
            Sentences.sentence("28: 0 before", "acted " + what + " = 0", "act 10 = UNKNOWN", "acted " + what + " = 0");
        }
        Sentences.sentence("28: 0 what it ANSWERED (0)", "step 0 ANSWER 5", "act 0 = 1", "acted 0 = 5", "act 1 = 0",
            "acted 0 = 0");
        Sentences.sentence("28: 0 what it ANSWERED (0), behind a DO that ANSWERED", "step 0 DO 1", "step 1 ANSWER 5",
            "act 0 = 0", "acted 0 = 0");
        Sentences.sentence("28: 1 STEPS that began, the one that failed, too", "step 0 SAY 1", "step 0 TAKE 0",
            "step 0 SAY 1", "act 0 = NOTHING", "acted 1 = 2");
        Sentences.sentence("28: 3 how often something was said", "step 0 SAY 1", "step 0 SAYLAST", "step 0 HOLDING 0 1",
            "step 1 WAKE 0", "step 1 WAKE 1", "act 0 = HOLD", "acted 3 = 3");
        Sentences.furnished("28: 5 things that went back (0 if it was undone)", "step 0 TAKE 16", "step 0 TAKE 17",
            "act 0 = 0", "acted 5 = 2", "step 0 FAIL 1", "act 0 = NOTHING", "acted 5 = 0");
    }

    private static void said() {
        Sentences.sentence("29: 0: none such", "said 0 = 0", "said -1 = 0", "said MAX = 0", "said MIN = 0",
            "step 0 SAY 5", "step 0 SAY 6", "act 0 = 0", "said 0 = 5", "said 1 = 6", "said 2 = 0", "said -1 = 0",
            "said 59 = 0", "said 60 = 0", "said MAX = 0", "said MIN = 0");
        Sentences.sentence("29: what was said i-th in it, in an ACT that was undone, too", "step 0 SAY 5",
            "step 0 FAIL 2", "act 0 = INDEX", "said 0 = 5", "said 1 = 0");
    }
}
