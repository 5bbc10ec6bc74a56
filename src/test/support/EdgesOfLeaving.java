import java.util.Arrays;

/**
 * What a call must leave as it was: every call that is refused, every question, and each other call what it is not about.
 * Each is tried in states that differ, among them, in everything from what is so at first.
 */
final class EdgesOfLeaving {
    private static final String T = "Terms";
    /** Nothing more is ridden, and every WIND would trip it. */
    private static final String BEARS_NOTHING = "blows 29 0, ticks 32, MODE = FAST, TORQUE != 0";
    private static final String TWISTED_BEARS_NOTHING = "types 'l36;', tells = 1, blows 0 12, ticks 12, blows 0 24, ticks 12, blows 0 0,"
        + " ticks 10, blows 23 32, ticks 35, blows 35 28, ticks 1, ices 1, grids 0, wants 0, ticks 1, blows 30 29";
    private static final String[] STATES = {EdgesOfCalls.WITHOUT_GRID, EdgesOfCalls.WITHOUT_GRID + ", wants 0",
        EdgesOfCalls.WITHOUT_GRID + ", wants 0, ticks 1, MODE = STOPPING", EdgesOfCalls.IN_STORM,
        EdgesOfCalls.IN_STORM + ", ticks 1, MODE = STOPPING, TORQUE != 0, OFF = 2, STORM = 2", EdgesOfCalls.TRIPPED_JUST,
        EdgesOfCalls.TRIPPED_JUST + ", grids 0, wants 0, blows 40 9, ticks 2, PITCH != 90, OFF = 2, STORM = 2, AWAY = 2",
        EdgesOfCalls.TRIPPED_AT_REST, EdgesOfCalls.TRIPPED_PITCHING, EdgesOfCalls.UNWINDING, BEARS_NOTHING, TWISTED_BEARS_NOTHING};
    /** The same, and nothing left to tick: 9999 TICKS. */
    private static final String[] ENDED = {
        "ticks 60 x166, blows 12 5, ticks 20, ices 2, ticks 16, grids 0, ticks 3, MODE = SLOW, wants 0",
        "ticks 60 x166, blows 14 5, ticks 38, blows 35 8, ticks 1, MODE = SLOW, TORQUE != 0, TWIST = 3, STORM = 1, OFF = 1",
        "types 'r40;t41;', tells = 2, ticks 60 x165, ticks 59, blows 20 32, ticks 40, MODE = TRIPPED, SPEED != 0",
        "types 'l36;', tells = 1, ticks 60 x165, ticks 40, blows 0 12, ticks 12, blows 0 24, ticks 12, blows 0 0, ticks 11,"
            + " blows 0 8, ticks 24, UNWINDING = 1"};

    private static final String IMAGE_0 = ", keep 0, ices 3, sees 3 12 40, sees 5 20 60, types 'r90;i5; '";
    private static final String IMAGE_1 = ", keep 1, ices 3, sees 3 12 40, sees 5 20 60, types 'r90;i5; '";
    private static final String IMAGES = ", keep 0, ices 3, keep 1, ices 4, sees 3 12 40, sees 5 20 60, types 'r90;i5; '";

    /** What depends on what is DONE; and that can be UNDONE: one more, or another. */
    private static final String[] DONE = {"gust", "dip", "which", "ask", "undone", "count 5"};
    /** All of the document's part 2, and what depends on it. */
    private static final String[] ALL_OF_2 = {"now", "record", "count 0", "count 1", "count 2", "rain", "gust", "dip", "which", "ask",
        "undone", "count 5"};

    private EdgesOfLeaving() {
    }

    static void test(Edges e) {
        for (String state : STATES) {
            // with both IMAGES some could be lost; with one of them the other could come about
            for (String made : new String[] {state + IMAGES, state + IMAGE_1}) {
                bad(e, made);
                state(e, made);
                full(e, made);
                faults(e, made);
                questions(e, made);
            }
            none(e, state);
            // where the same calls have made the state, what they change may have been changed by then
            for (String made : new String[] {state, state + IMAGES}) {
                told(e, made);
                done(e, made);
                kept(e, made);
            }
            cameBack(e, state + IMAGES);
        }
        bearsNothing(e);
        for (String state : ENDED) {
            fullOfTicks(e, state + IMAGE_0);
            fullOfTicks(e, state + IMAGE_1);
        }
    }

    private static void each(Edges e, String made, String... calls) {
        for (String call : calls) {
            e.leavesAll(made, call);
        }
    }

    private static void bad(Edges e, String made) {
        e.of(T, "Refused, and nothing changes, the first of these that is so: BAD (a number is not as told, or there is no such"
            + " thing)");
        each(e, made, "type -1 = BAD", "type 256 = BAD", "blows -1 0 = BAD", "blows 41 0 = BAD", "blows 0 -1 = BAD", "blows 0 36 = BAD",
            "ices -1 = BAD", "ices 6 = BAD", "grids -1 = BAD", "grids 2 = BAD", "wants -1 = BAD", "wants 2 = BAD", "ticks 0 = BAD",
            "ticks 61 = BAD", "now -1 = NO", "now 18 = NO", "setting -1 = BAD", "setting 6 = BAD", "record -1 = BAD", "gust 0 = BAD",
            "gust 21 = BAD", "halves -1 = BAD", "halves 1000 = BAD", "rain -1 = BAD", "rain 5 = BAD", "sees 0 1 1 = BAD",
            "sees 21 1 1 = BAD", "sees 1 -1 1 = BAD", "sees 1 41 1 = BAD", "sees 1 1 -1 = BAD", "sees 1 1 1000 = BAD", "keep -1 = BAD",
            "keep 2 = BAD", "back -1 = BAD", "back 2 = BAD", "count -1 = BAD", "count 6 = BAD");
    }

    private static void state(Edges e, String made) {
        Run run = e.ran(made);
        e.of(T, "STATE (as told)");
        each(e, made, "blows " + run.ask("WIND") + " " + run.ask("FROM") + " = STATE", "ices " + run.ask("ICE") + " = STATE",
            "grids " + run.ask("GRID") + " = STATE", "wants " + run.ask("WANTED") + " = STATE");
        if (run.ask("MODE") != 5 || run.ask("SPEED") != 0) {
            e.leavesAll(made, "resets = STATE");
        }
    }

    /** Nothing is there that could be UNDONE or come back. */
    private static void none(Edges e, String state) {
        e.of("Promise 11", "STATE: none.")
            .leavesAll(state + IMAGES + ", back 0", "undo = STATE")
            .leavesAll(state + IMAGE_1 + ", back 1", "undo = STATE")
            // pictures have undo in them: what it leaves of IMAGES is looked at without one
            .run(state + ", keep 0, keep 1, back 0, undo = STATE, back 0, back 1")
            .run(state + ", keep 0, back 0, undo = STATE, back 1 = STATE, back 0")
            .run(state + ", keep 1, back 1, undo = STATE, back 0 = STATE, back 1")
            .run(state + ", keep 0, undo, back 1 = STATE, back 0")
            .run(state + ", keep 1, undo, back 0 = STATE, back 1");
        e.of("Promise 24", "STATE: none was kept.")
            .leavesAll(state + IMAGE_0, "back 1 = STATE")
            .leavesAll(state + IMAGE_1, "back 0 = STATE");
    }

    private static void full(Edges e, String made) {
        e.of("Promise 2", "FULL: 80.")
            .leavesAll(made + ", clear, types 'r77;s8;', type 32 x73, LETTERS = 80", "type 120 = FULL");
        e.of("Promise 19", "FULL: 6.")
            .leavesAll(made + ", sees 1 0 0 x4, SEEN = 6", "sees 1 1 1 = FULL");
    }

    private static void fullOfTicks(Edges e, String made) {
        e.of("Promise 10", "FULL: there would be more than 9999 ever.")
            .leavesAll(made + ", TICKS = 9999", "ticks 1 = FULL")
            .leavesAll(made, "ticks 60 = FULL");
    }

    private static void faults(Edges e, String made) {
        e.of("Promise 4", "-10 less FAULT: nothing changes (THE TEXT stays, too).");
        for (String fault : new String[] {"'r77;t88;i7;o22;l77;s7;x', tells = -32", "'r77;t88;i7;o22;l77;s7', tells = -31",
            "'r77;t77;', tells = -15"}) {
            int tells = fault.lastIndexOf(',');
            e.leavesAll(made + ", clear, types " + fault.substring(0, tells), fault.substring(tells + 2));
        }
    }

    private static void questions(Edges e, String made) {
        e.of(T, "3 (Nothing is changed.)");
        each(e, made, "gust 1 != BAD", "gust 20 != BAD", "dip != BAD", "halves 0 != BAD", "halves 999 != BAD", "rain 0 != BAD",
            "rain 1 != BAD", "rain 2 != BAD", "rain 3 != BAD", "rain 4 != BAD", "which != BAD", "ask != BAD",
            "forget, which = 63, ask != NONE, sees 3 12 40, sees 5 20 60");
        // SEEN is what every ICE would make, so that there is something to ask for
        Run run = e.ran(made);
        run.ask("blows 0 " + run.ask("FROM"));
        e.leavesAll(made + ", forget, sees 1 0 " + run.ask("ticks 1") + ", which = 63", "ask != NONE");
        // what is asked as it is
        for (int what = 0; what <= 17; what++) {
            e.leavesAll(made, "now " + what + " != NO");
        }
        for (int what = 0; what <= 5; what++) {
            each(e, made, "setting " + what, "count " + what);
        }
        each(e, made, "record 0", "record 39 != BAD", "record 40 = NONE");
    }

    private static void bearsNothing(Edges e) {
        e.of(T, "NONE, if none (or it is TRIPPED).")
            .leavesAll(BEARS_NOTHING + IMAGES, "gust 1 = NONE")
            .leavesAll(TWISTED_BEARS_NOTHING + IMAGES + ", ices 1", "gust 11 = NONE")
            .leavesAll(EdgesOfCalls.UNWINDING + IMAGES + ", blows 28 0, ticks 30, ices 0, TWIST = 5", "gust 7 = NONE")
            .leavesAll(EdgesOfCalls.TRIPPED_AT_REST + IMAGE_1 + ", resets, blows 25 4", "gust 9 = NONE");
        e.of(T, "NONE, if none, or MODE is neither SLOW nor FAST now.")
            .leavesAll(BEARS_NOTHING + IMAGES, "dip = NONE")
            .leavesAll(EdgesOfCalls.WITHOUT_GRID + ", wants 0" + IMAGES, "dip = NONE")
            .leavesAll(EdgesOfCalls.TRIPPED_AT_REST + IMAGE_1 + ", resets, blows 5 4, ticks 50, MODE = SLOW, wants 0", "dip = NONE");
    }

    private static void told(Edges e, String made) {
        e.of("Promise 2", "A letter (0 .. 255) comes to THE TEXT")
            .leavesAllBut(made, "type 0", "count 4", "text")
            .leavesAllBut(made, "type 255", "count 4", "text");
        e.of("Promise 3", "THE TEXT is empty")
            .leavesAllBut(made, "clear", "count 4", "text");
        e.of("Promise 19", "SEEN (n, a WIND, x 0 .. 999)")
            .leavesAllBut(made, "sees 1 0 0", "count 3", "which", "ask");
        e.of("Promise 20", "Nothing is SEEN")
            .leavesAllBut(made, "forget", "count 3", "which", "ask");
    }

    private static void done(Edges e, String made) {
        Run run = e.ran(made);
        e.of(T, "DONE: WIND told, ICE, the GRID, WANTED told, RESET (TRIPPED, SPEED 0: STOPPED), TICKS.")
            .leavesAllBut(made, "blows 33 30", with(DONE, "now 4:", "now 5:", "now 16:", "now 17:"))
            .leavesAllBut(made, "blows " + (run.ask("WIND") == 1 ? 2 : 1) + " " + run.ask("FROM"), with(DONE, "now 4:", "now 16:"))
            // what ICE it has is unknown to those who ask
            .leavesAllBut(made, "ices 5", "gust", "dip", "undone", "count 5", "now 8:", "now 16:")
            .leavesAllBut(made, "grids " + (1 - run.ask("GRID")), with(DONE, "now 9:"))
            .leavesAllBut(made, "wants " + (1 - run.ask("WANTED")), with(DONE, "now 10:"))
            .leavesAllBut(made, "ticks 1", ALL_OF_2)
            .leavesAllBut(made, "ticks 60", ALL_OF_2)
            .leavesAllBut(made, "undo", ALL_OF_2);
        if (run.ask("MODE") == 5 && run.ask("SPEED") == 0) {
            e.leavesAllBut(made, "resets", with(DONE, "now 0:"));
        }
    }

    private static String[] with(String[] some, String... others) {
        String[] all = Arrays.copyOf(some, some.length + others.length);
        System.arraycopy(others, 0, all, some.length, others.length);
        return all;
    }

    private static void kept(Edges e, String made) {
        e.of("Promise 23", "An IMAGE is kept")
            .leavesAllBut(made, "keep 0", "image 0")
            .leavesAllBut(made, "keep 1", "image 1");
    }

    /** Both IMAGES stay, whichever comes back. */
    private static void cameBack(Edges e, String made) {
        e.of("Promise 24", "All of that becomes as an IMAGE has it")
            .leavesAllBut(made, "back 0", ALL_OF_2)
            .leavesAllBut(made, "back 1", ALL_OF_2);
    }
}
