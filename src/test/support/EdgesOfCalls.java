/** The edges of what is done, asked and kept, and of what is refused: promises 1, 5 to 12, 14, 20 and 23 to 25. */
final class EdgesOfCalls {
    /** Something of everything: 6 to be UNDONE, both IMAGES, 2 SEEN, 8 letters, the GRID away. */
    static final String FURNISHED = "blows 12 0, ticks 30, keep 0, ices 2, ticks 9, keep 1, grids 0, ticks 2, blows 14 3,"
        + " sees 3 12 40, sees 5 20 60, types 'r90;i5; ', UNDOABLE = 6";
    /** All that fits of everything but TICKS. */
    static final String FULL_OF_ALL = "types 's9;" + " ".repeat(77) + "', sees 1 0 0 x6, keep 0, blows 9 1, ticks 60, keep 1,"
        + " ices 5, wants 0, blows 9 2, ticks 3, UNDOABLE = 6, LETTERS = 80, SEEN = 6, RECORDED = 40";
    static final String TRIPPED_AT_REST = "types 'r40;t41;', tells = 2, blows 20 4, ticks 40, MODE = TRIPPED, blows 0 4,"
        + " ticks 60, SPEED = 0, MODE = TRIPPED";
    /** RESET does not wait for PITCH. */
    static final String TRIPPED_PITCHING = "types 'r40;t41;i1;s1;', tells = 4, blows 3 0, ticks 60, ticks 40, blows 11 0, ticks 6,"
        + " SPEED = 42, blows 0 0, ticks 41, MODE = TRIPPED, SPEED = 0, PITCH = 82";
    static final String TRIPPED_JUST = "types 't101;', tells = 1, blows 22 5, ticks 37, MODE = TRIPPED, TORQUE = 39, PITCH = 6, HEADING = 3";
    /** No GRID, and ICE. */
    static final String WITHOUT_GRID = "blows 12 0, ticks 30, ices 2, ticks 9, grids 0, ticks 2, blows 14 3, MODE = SLOW, AWAY = 2";
    /** All SETTINGS other than at first, too. */
    static final String IN_STORM = "types 'r90;t111;i5;o31;l70;s4;', tells = 6, blows 12 5, ticks 40, blows 35 8, ticks 1, wants 0,"
        + " MODE = SLOW, TORQUE != 0, TWIST = 3, STORM = 1, OFF = 1";
    /** TWIST and HEADING go up by 35, and one more tick makes it WOUND. */
    static final String NEXT_TO_LIMIT = "types 'l36;', tells = 1, blows 0 12, ticks 12, blows 0 24, ticks 12, blows 0 0,"
        + " ticks 11, blows 0 8, ticks 2, TWIST = 35, HEADING = 35, ERROR = 9";
    static final String UNWINDING = NEXT_TO_LIMIT + ", ticks 1, TWIST = 36, UNWINDING = 0, ticks 1, UNWINDING = 1";
    /** 9960 TICKS. */
    static final String LONG = "ticks 60 x166, TICKS = 9960";

    private static final String LEAST = "-2147483648", GREATEST = "2147483647";
    private static final String[] STATES = {FURNISHED, FULL_OF_ALL, TRIPPED_AT_REST, TRIPPED_JUST, IN_STORM, UNWINDING};

    private EdgesOfCalls() {
    }

    static void test(Edges e) {
        newObject(e);
        manyCalls(e);
        constants(e);
        orderOfRefusals(e);
        blows(e);
        ices(e);
        grids(e);
        wants(e);
        resets(e);
        ticks(e);
        undone(e);
        undo(e);
        now(e);
        record(e);
        images(e);
        keep(e);
        back(e);
        count(e);
    }

    private static void newObject(Edges e) {
        String asAtFirst = "MODE = STOPPED, SPEED = 0, PITCH = 90, TORQUE = 0, WIND = 0, FROM = 0, HEADING = 0, TWIST = 0,"
            + " ICE = 0, GRID = 1, WANTED = 1, GOOD = 0, STORM = 0, AWAY = 0, OFF = 0, UNWINDING = 0";
        e.of("Promise 1", "As at first.")
            .run(asAtFirst)
            .run("RATED = 100, TRIP = 130, CUT-IN = 4, CUT-OUT = 30, LIMIT = 72, RATE = 3")
            .run("TICKS = 0, RECORDED = 0, TRIPS = 0, SEEN = 0, LETTERS = 0, UNDOABLE = 0")
            .run("undo = STATE, back 0 = STATE, back 1 = STATE, record 0 = NONE, which = 63, clear = 0, forget = 0");
        e.of("Terms", "2 MODE: 0 STOPPED (at first), 1 STARTING, 2 SLOW, 3 FAST, 4 STOPPING, 5 TRIPPED. SPEED (0 at first), PITCH"
            + " (0 to 90; 90 at first), TORQUE (0 at first). WIND (0 to 40; 0 at first) comes FROM 0 to 35 (0 at first; round,"
            + " behind 35 comes 0); HEADING (0 to 35; 0 at first), TWIST (0 at first); ICE (0 to 5; 0 at first); the GRID is"
            + " there (at first) or away; it is WANTED (at first) or not.")
            .run(asAtFirst);
        e.of("Terms", "GOOD, STORM, AWAY, OFF count TICKS (0 at first).")
            .run("GOOD = 0, STORM = 0, AWAY = 0, OFF = 0");
    }

    private static void manyCalls(Edges e) {
        e.of("What it is", "An object is used for at most 512 calls after it has been made")
            .run("ticks 1 x511, TICKS = 511")
            .run("ices 1, ices 2 = 1, keep 0, ices 2 x508 = STATE, ICE = 2")
            .run("type 120 x80, clear = 80, type 120 x80, clear = 80, type 120 x80, clear = 80, type 120 x80, clear = 80,"
                + " type 120 x80, clear = 80, type 120 x80, clear = 80, sees 1 1 1 x6, sees 1 1 1 x19 = FULL, SEEN = 6");
    }

    private static void constants(Edges e) {
        e.of("Terms", "`NO = -1000000`: What is BAD (NO) where a number may be below 0.")
            .run("now -1 = -1000000, now 18 = -1000000, count -1 = -1, setting -1 = -1, record -1 = -1");
    }

    private static void orderOfRefusals(Edges e) {
        e.of("Terms", "Refused, and nothing changes, the first of these that is so: BAD (a number is not as told, or there is no"
            + " such thing), STATE (as told), FULL.")
            .run("back 2 = BAD, back -1 = BAD, back 0 = STATE")
            .run("type 32 x80, type 256 = BAD, type 32 = FULL")
            .run("sees 1 0 0 x6, sees 0 0 0 = BAD, sees 1 41 0 = BAD, sees 1 0 1000 = BAD, sees 1 0 0 = FULL")
            .run(LONG + ", ticks 39, ticks 0 = BAD, ticks 61 = BAD, ticks 1 = FULL")
            .run(TRIPPED_AT_REST + ", gust 0 = BAD, gust 21 = BAD, gust 1 = NONE");
        for (String state : STATES) {
            e.leavesAll(state, "type -1 = BAD, blows 41 0 = BAD, blows 0 36 = BAD, ices 6 = BAD, grids 2 = BAD, wants 2 = BAD,"
                + " ticks 0 = BAD, ticks 61 = BAD, now 18 = NO, setting 6 = BAD, record -1 = BAD, gust 0 = BAD, gust 21 = BAD,"
                + " halves -1 = BAD, halves 1000 = BAD, rain 5 = BAD, sees 0 0 0 = BAD, keep 2 = BAD, back 2 = BAD,"
                + " count 6 = BAD");
        }
    }

    private static void blows(Edges e) {
        e.of("Promise 5", "WIND (0 .. 40), FROM (0 .. 35): what WIND was. BAD; STATE: both are so.")
            .run("blows 40 35 = 0, WIND = 40, FROM = 35, blows 0 0 = 40, WIND = 0, FROM = 0")
            .run("blows -1 0 = BAD, blows 41 0 = BAD, blows 0 -1 = BAD, blows 0 36 = BAD, blows -1 36 = BAD, UNDOABLE = 0")
            .run("blows " + LEAST + " 0 = BAD, blows " + GREATEST + " 0 = BAD, blows 1 " + LEAST + " = BAD, blows 1 " + GREATEST
                + " = BAD, WIND = 0")
            .run("blows 0 0 = STATE, UNDOABLE = 0, blows 7 0 = 0, blows 7 0 = STATE, UNDOABLE = 1")
            // one of both is so
            .run("blows 7 9 = 0, blows 7 8 = 7, FROM = 8, blows 6 8 = 7, WIND = 6, UNDOABLE = 3, blows 6 8 = STATE, UNDOABLE = 3")
            .leavesAll(FURNISHED, "blows 41 0 = BAD, blows -1 0 = BAD, blows 0 36 = BAD, blows 0 -1 = BAD, blows 14 3 = STATE");
        e.of("Terms", "WIND (0 to 40; 0 at first) comes FROM 0 to 35 (0 at first; round, behind 35 comes 0)")
            .run("blows 0 35, ERROR = 1, blows 0 1, ERROR = 1, blows 0 34, ERROR = 2, blows 0 0, ERROR = 0");
    }

    private static void ices(Edges e) {
        e.of("Promise 6", "ICE (0 .. 5): what it was. BAD; STATE: it is that.")
            .run("ices -1 = BAD, ices 6 = BAD, ices " + LEAST + " = BAD, ices " + GREATEST + " = BAD, ICE = 0, UNDOABLE = 0")
            .run("ices 0 = STATE, ices 5 = 0, ICE = 5, ices 5 = STATE, UNDOABLE = 1, ices 0 = 5, ICE = 0, UNDOABLE = 2")
            .leavesAll(FURNISHED, "ices -1 = BAD, ices 6 = BAD, ices 2 = STATE");
        e.of("Terms", "ICE (0 to 5; 0 at first)")
            .run("ices 1 = 0, ices 2 = 1, ices 3 = 2, ices 4 = 3, ices 5 = 4, ices 6 = BAD, ICE = 5");
    }

    private static void grids(Edges e) {
        e.of("Promise 7", "The GRID is there (is = 1), away (0): MODE. BAD; STATE: it is so.")
            .run("grids -1 = BAD, grids 2 = BAD, grids " + LEAST + " = BAD, grids " + GREATEST + " = BAD, GRID = 1, UNDOABLE = 0")
            .run("grids 1 = STATE, grids 0 = 0, GRID = 0, grids 0 = STATE, UNDOABLE = 1, grids 1 = 0, GRID = 1, UNDOABLE = 2")
            .leavesAll(FURNISHED, "grids -1 = BAD, grids 2 = BAD, grids 0 = STATE");
        e.of("Promise 7", "MODE").run(everyMode("grids 0"));
    }

    private static void wants(Edges e) {
        e.of("Promise 8", "It is WANTED (is = 1), or not (0): MODE. BAD; STATE: it is so.")
            .run("wants -1 = BAD, wants 2 = BAD, wants " + LEAST + " = BAD, wants " + GREATEST + " = BAD, WANTED = 1, UNDOABLE = 0")
            .run("wants 1 = STATE, wants 0 = 0, WANTED = 0, wants 0 = STATE, UNDOABLE = 1, wants 1 = 0, WANTED = 1, UNDOABLE = 2")
            .leavesAll(FURNISHED, "wants -1 = BAD, wants 2 = BAD, wants 1 = STATE");
        e.of("Promise 8", "MODE").run(everyMode("wants 0"));
    }

    /** The call answers each MODE, as it is ahead of the call's tick. */
    private static String everyMode(String call) {
        return call + " = STOPPED, undo, blows 23 0, ticks 16, " + call + " = STARTING, undo, ticks 1, " + call
            + " = SLOW, undo, ticks 13, " + call + " = FAST, undo, wants 0, ticks 1, wants 1, " + call
            + " = STOPPING, undo, types 'r40;t41;', tells = 2, blows 20 0, ticks 40, " + call + " = TRIPPED";
    }

    private static void resets(Edges e) {
        e.of("Promise 9", "RESET: HEADING. STATE: it is not TRIPPED, or SPEED is not 0.")
            .run("resets = STATE, UNDOABLE = 0")
            .run("blows 23 0, ticks 16, MODE = STARTING, resets = STATE, ticks 1, MODE = SLOW, resets = STATE, ticks 13,"
                + " MODE = FAST, resets = STATE, wants 0, ticks 1, MODE = STOPPING, resets = STATE")
            .run("blows 10 0, ticks 16, blows 0 0, ticks 10, wants 0, ticks 23, MODE = STOPPING, SPEED = 0, resets = STATE")
            .run("types 'r40;t41;', tells = 2, blows 20 0, ticks 40, MODE = TRIPPED, SPEED != 0, resets = STATE, blows 0 0,"
                + " ticks 46, SPEED = 1, resets = STATE, MODE = TRIPPED, UNDOABLE = 4, ticks 1, SPEED = 0, resets = 0,"
                + " MODE = STOPPED, UNDOABLE = 6, resets = STATE")
            // what it answers is HEADING: 2 steps short of FROM 4
            .run(TRIPPED_AT_REST + ", HEADING = 2, UNDOABLE = 4, resets = 2, MODE = STOPPED, UNDOABLE = 5, resets = STATE")
            .leavesAll(FURNISHED, "resets = STATE")
            .leavesAll("types 'r40;t41;', tells = 2, blows 20 0, ticks 40, MODE = TRIPPED, SPEED != 0", "resets = STATE")
            .leavesAll(UNWINDING, "resets = STATE");
        e.of("Terms", "RESET (TRIPPED, SPEED 0: STOPPED)")
            // whatever PITCH is: it goes on to 90, by RATE
            .run(TRIPPED_PITCHING + ", resets = 0, MODE = STOPPED, PITCH = 82, ticks 1, PITCH = 83, ticks 7, PITCH = 90, MODE = STOPPED")
            // nothing else is changed by it
            .run(TRIPPED_AT_REST + ", TRIPS = 1, PITCH = 90, resets = 2, MODE = STOPPED, TRIPS = 1, PITCH = 90, SPEED = 0,"
                + " TICKS = 100, RECORDED = 40, HEADING = 2, TWIST = 2, WIND = 0, FROM = 4")
            // what was counted goes on: GOOD of 3 or more starts it in the next TICK
            .run("types 'r40;t41;', tells = 2, blows 20 0, ticks 60 x2, MODE = TRIPPED, SPEED = 0, GOOD = 120, resets = 0, GOOD = 120,"
                + " ticks 1, MODE = STARTING")
            .run("types 'r40;t41;', tells = 2, blows 20 0, ticks 40, blows 40 9, ices 2, wants 0, grids 0, ticks 60 x2, SPEED = 0,"
                + " STORM = 120, AWAY = 120, OFF = 120, resets = 0, STORM = 120, AWAY = 120, OFF = 120, ICE = 2, WANTED = 0, GRID = 0,"
                + " WIND = 40, FROM = 9, HEADING = 0, ticks 1, HEADING = 1");
    }

    private static void ticks(Edges e) {
        e.of("Promise 10", "n (1 .. 60) TICKS: SPEED then. BAD; FULL: there would be more than 9999 ever.")
            .run("ticks 0 = BAD, ticks 61 = BAD, ticks -1 = BAD, ticks " + LEAST + " = BAD, ticks " + GREATEST + " = BAD, TICKS = 0,"
                + " UNDOABLE = 0, RECORDED = 0")
            .run("ticks 1 = 0, TICKS = 1, ticks 60 = 0, TICKS = 61")
            .run("blows 12 0, ticks 11 = 7, SPEED = 7")
            .run(LONG + ", ticks 40 = FULL, TICKS = 9960, ticks 39 = 0, TICKS = 9999, ticks 1 = FULL, ticks 60 = FULL, TICKS = 9999")
            .run(LONG + ", ticks 38, ticks 2 = FULL, ticks 1, TICKS = 9999, ticks 1 = FULL")
            // what is UNDONE, and what an IMAGE has, counts again from there
            .run("keep 0, " + LONG + ", ticks 39, ticks 1 = FULL, undo, TICKS = 9960, ticks 39, TICKS = 9999, back 0 = 0, ticks 60,"
                + " TICKS = 60")
            .run(LONG + ", ticks 39, tells = 0, TICKS = 0, ticks 60, TICKS = 60")
            // what is asked for is not bound by it
            .run("blows 12 0, " + LONG + ", ticks 39, gust 1 = 40, dip = 3, which = 63")
            .leavesAll(FURNISHED, "ticks 0 = BAD, ticks 61 = BAD")
            .leavesAll("types 's5;', keep 0, sees 1 2 3, " + LONG + ", ticks 39", "ticks 1 = FULL, ticks 60 = FULL, ticks 61 = BAD");
        e.of("Promise 10", "n (1 .. 60) TICKS")
            .presentAlike("blows 12 0, ticks 60", "blows 12 0, ticks 1 x60")
            .presentAlike("blows 23 4, ticks 59, ticks 1", "blows 23 4, ticks 1, ticks 59");
    }

    private static void undone(Edges e) {
        e.of("Terms", "UNDONE: the latest blows(), ices(), grids(), wants(), resets(), ticks() that was not refused: all that 2 tells"
            + " is as ahead of it (6 are known, older ones are lost).");
        for (String state : STATES) {
            e.presentAlike(state + ", blows 33 30, undo", state);
            e.presentAlike(state + ", ices 3, undo", state);
            e.presentAlike(state + ", ticks 60, undo", state);
            e.presentAlike(state + ", ticks 1, undo", state);
            e.presentAlike(state + ", blows 33 30, ices 3, ticks 50, ices 4, ticks 7, blows 1 1, undo x6", state);
        }
        e.presentAlike(FURNISHED + ", grids 1, ticks 3, wants 0, ticks 3, grids 0, ticks 60, undo x6", FURNISHED)
            .presentAlike(TRIPPED_AT_REST + ", resets = 2, undo", TRIPPED_AT_REST)
            .presentAlike(TRIPPED_AT_REST + ", resets = 2, blows 9 4, ticks 30, undo x3", TRIPPED_AT_REST)
            // how often it became TRIPPED, too
            .run("types 'r40;t41;', tells = 2, blows 20 0, ticks 40, TRIPS = 1, undo, TRIPS = 0, TICKS = 0, MODE = STOPPED")
            .run("ices 1, ices 2, ices 3, ices 4, ices 5, UNDOABLE = 5, ices 4, UNDOABLE = 6, ices 3, UNDOABLE = 6, undo = 5,"
                + " ICE = 4, undo = 4, undo = 3, undo = 2, undo = 1, ICE = 2, undo = 0, ICE = 1, undo = STATE, ICE = 1")
            .run("ices 1, ices 2, ices 3, ices 4, ices 5, ices 4, undo = 5, undo = 4, undo = 3, undo = 2, undo = 1, undo = 0,"
                + " ICE = 0, undo = STATE")
            // refused calls, and those that are not named, are none of the 6
            .run("ices 1, ices 1 = STATE, ices 6 = BAD, blows 0 0 = STATE, grids 1 = STATE, wants 1 = STATE, resets = STATE,"
                + " ticks 61 = BAD, UNDOABLE = 1, keep 0, type 32, sees 1 1 1, forget, clear, UNDOABLE = 1, undo = 0, ICE = 0")
            // what 2 does not tell is not UNDONE
            .run("types 's5;', tells = 1, ices 1, keep 0, ices 2, sees 1 2 3, types 'x', undo, ICE = 1, undo, ICE = 0, RATE = 5,"
                + " SEEN = 1, LETTERS = 1, back 0, ICE = 1")
            // undo itself is not UNDONE
            .run("ices 1, ices 2, undo = 1, undo = 0, ICE = 0, undo = STATE");
    }

    private static void undo(Edges e) {
        e.of("Promise 11", "UNDONE: how many more may be. STATE: none.")
            .run("undo = STATE, UNDOABLE = 0, ices 1, undo = 0, undo = STATE, ICE = 0, ices 2, ices 3, undo = 1, ICE = 2")
            // the ring goes round
            .run("ices 1, ices 2, ices 3, ices 4, undo = 3, undo = 2, ices 5, ices 4, ices 3, ices 2, UNDOABLE = 6, undo = 5, ICE = 3,"
                + " undo = 4, ICE = 4, undo = 3, ICE = 5, undo = 2, ICE = 2, undo = 1, ICE = 1, undo = 0, ICE = 0")
            .leavesAll("types 's5;', sees 1 2 3, keep 1, ices 1, undo, undo = STATE", "undo = STATE")
            .leavesAll("blows 12 0, ticks 50, keep 0, back 0", "undo = STATE");
    }

    private static void now(Edges e) {
        e.of("Promise 12", "0 MODE, 1 SPEED, 2 PITCH, 3 TORQUE, 4 WIND, 5 FROM, 6 HEADING, 7 TWIST, 8 ICE, 9 whether the GRID is"
            + " there (1, 0), 10 WANTED (1, 0), 11 GOOD, 12 STORM, 13 AWAY, 14 OFF, 15 UNWINDING (1, 0), 16 DRIVE as it would be"
            + " now, 17 ERROR now. NO: BAD.")
            .run("now -1 = NO, now 18 = NO, now " + LEAST + " = NO, now " + GREATEST + " = NO")
            .run("grids 0, GRID = 0, grids 1, GRID = 1, wants 0, WANTED = 0, wants 1, WANTED = 1")
            .run(UNWINDING + ", UNWINDING = 1, undo, UNWINDING = 0")
            .run("blows 0 33, ticks 3, TWIST = -1, HEADING = 35, OFF = 3, ERROR = 2")
            // DRIVE and ERROR are of what is so now, not of what was in the last tick
            .run("blows 12 0, ticks 11, PITCH = 63, DRIVE = 18, ices 5, DRIVE = 9, blows 0 0, DRIVE = 0, blows 40 0, DRIVE = 30,"
                + " blows 40 18, DRIVE = 0, ERROR = 18, blows 40 27, ERROR = 9, DRIVE = 0, blows 40 28, ERROR = 8, DRIVE = 3")
            .leavesAll(FURNISHED, "now -1 = NO, now 18 = NO, DRIVE, ERROR");
    }

    private static void record(Edges e) {
        e.of("Promise 14", "THE RECORD, the k-th (0: the latest); NONE: not so many (40 at most). BAD (k below 0).")
            .run("record 0 = NONE, record -1 = BAD, record " + LEAST + " = BAD, record " + GREATEST + " = NONE")
            .run("blows 12 0, ticks 11, record 0 = 7, record 1 = 5, record 2 = 4, record 10 = 0, record 11 = NONE, record 39 = NONE")
            .run("ticks 1, record 0 = 0, record 1 = NONE, ticks 38, record 38 = 0, record 39 = NONE, ticks 1, record 39 = 0,"
                + " record 40 = NONE, ticks 1, record 39 = 0, record 40 = NONE")
            .leavesAll(FURNISHED, "record -1 = BAD, record 0, record 39, record 40 = NONE");
        e.of("Terms", "(7) THE RECORD: SPEED behind each TICK (the last 40).")
            // SPEED is first 1 behind the 6th tick, and 7 behind the 11th
            .run("blows 12 0, ticks 39, RECORDED = 39, record 33 = 1, record 28 = 7, record 38 = 0, record 39 = NONE")
            .run("blows 12 0, ticks 40, RECORDED = 40, record 34 = 1, record 35 = 0, record 39 = 0")
            .run("blows 12 0, ticks 45, RECORDED = 40, record 39 = 1, record 38 = 2, record 34 = 7, record 40 = NONE")
            .run("blows 12 0, ticks 50, RECORDED = 40, record 39 = 7, record 40 = NONE");
        e.of("Terms", "TICKS ever, how often it became TRIPPED are counted: they are of what 2 tells, too.")
            .run("keep 0, types 'r40;t41;', tells = 2, keep 0, blows 20 0, ticks 40, TRIPS = 1, keep 1, back 0 = 0, TICKS = 0,"
                + " TRIPS = 0, back 1 = 40, TICKS = 40, TRIPS = 1")
            .run("types 'r40;t41;', tells = 2, blows 20 0, ticks 40, ticks 40, TRIPS = 1, undo, TICKS = 40, undo, TICKS = 0, TRIPS = 0")
            // TRIPPED it stays, without becoming it; RESET and TRIPPED again it is twice
            .run(TRIPPED_AT_REST + ", TRIPS = 1, ticks 60, TRIPS = 1, resets = 2, TRIPS = 1, blows 20 4, ticks 40, MODE = TRIPPED,"
                + " TRIPS = 2");
    }

    private static void images(Edges e) {
        e.of("Terms", "IMAGES 0, 1 keep all that 2 tells; nothing else (nothing can be UNDONE behind back()).")
            .run("ices 1, keep 0, ices 2, keep 1, ices 3, UNDOABLE = 3, back 0, UNDOABLE = 0, undo = STATE, ICE = 1, back 1, ICE = 2")
            .run("sees 1 1 1, types 'x', keep 0, forget, clear, back 0, SEEN = 0, LETTERS = 0")
            .run("keep 0, sees 1 1 1, types 'x', back 0, SEEN = 1, LETTERS = 1");
        for (String state : STATES) {
            e.presentAlike(state + ", keep 0, ices 3, blows 25 3, ticks 60, keep 1, ticks 60, back 0", state);
            e.presentAlike(state + ", keep 1, blows 0 19, ticks 60, keep 0, ticks 60, back 1", state);
            e.presentAlike(state + ", keep 1, blows 0 19, ticks 60, back 1, blows 25 25, ticks 60, back 1", state);
        }
    }

    private static void keep(Edges e) {
        e.of("Promise 23", "An IMAGE is kept: TICKS ever. BAD.")
            .run("keep -1 = BAD, keep 2 = BAD, keep " + LEAST + " = BAD, keep " + GREATEST + " = BAD, back 0 = STATE, back 1 = STATE")
            .run("keep 0 = 0, ticks 9, keep 1 = 9, ticks 9, keep 0 = 18, back 1 = 9, back 0 = 18")
            .run("ices 1, keep 0, UNDOABLE = 1, undo = 0, ICE = 0, back 0, ICE = 1")
            .leavesAll(FURNISHED, "keep -1 = BAD, keep 2 = BAD");
    }

    private static void back(Edges e) {
        e.of("Promise 24", "All of that becomes as an IMAGE has it: TICKS ever. BAD; STATE: none was kept.")
            .run("back -1 = BAD, back 2 = BAD, back " + LEAST + " = BAD, back " + GREATEST + " = BAD")
            .run("back 0 = STATE, back 1 = STATE, keep 0, back 1 = STATE, back 0 = 0, back 1 = STATE")
            .run("back 0 = STATE, back 1 = STATE, keep 1, back 0 = STATE, back 1 = 0, back 0 = STATE")
            .run("keep 0, ticks 9, back 0 = 0, ticks 5, back 0 = 0, TICKS = 0, RECORDED = 0")
            .leavesAll(FURNISHED, "back -1 = BAD, back 2 = BAD")
            .leavesAll("blows 12 0, ticks 30, keep 0, sees 1 2 3, types 's5;', ices 1", "back 1 = STATE")
            .leavesAll("blows 12 0, ticks 30, keep 1, sees 1 2 3, types 's5;', ices 1", "back 0 = STATE");
    }

    private static void count(Edges e) {
        e.of("Promise 25", "0 TICKS ever, 1 how many SPEEDS THE RECORD has, 2 how often it became TRIPPED, 3 SEEN, 4 letters of THE"
            + " TEXT, 5 how many may be UNDONE. BAD.")
            .run("count -1 = BAD, count 6 = BAD, count " + LEAST + " = BAD, count " + GREATEST + " = BAD")
            .run(FULL_OF_ALL + ", count 0 = 63, count 1 = 40, count 2 = 0, count 3 = 6, count 4 = 80, count 5 = 6")
            .run("ticks 39, count 1 = 39, ticks 1, count 1 = 40, ticks 1, count 1 = 40, count 0 = 41")
            .run(TRIPPED_AT_REST + ", count 2 = 1")
            .leavesAll(FURNISHED, "count -1 = BAD, count 6 = BAD, count 0, count 5");
    }
}
