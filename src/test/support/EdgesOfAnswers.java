/**
 * The edges of what it would bear, of rain, and of how much ice there is: promises 15 to 22. Where a run comes to was found
 * by a search; what is due then is worked out by ticking out, on new objects, what was asked.
 */
final class EdgesOfAnswers {
    private static final String T = "Terms";
    private static final String LEAST = "-2147483648", GREATEST = "2147483647";
    /** SPEED 7 and PITCH 63: the next TICK's DRIVE is WIND times (10 less ICE), by 6. */
    private static final String STARTED = "blows 12 0, ticks 11, SPEED = 7, PITCH = 63";
    private static final String SLOW = "blows 11 0, ticks 45, MODE = SLOW";
    private static final String ICED = "types 'r60;s4;', tells = 2, blows 9 2, ticks 25, ices 3";
    /** TWIST 34, LIMIT 36: a FROM 4 ahead makes it WOUND. */
    private static final String TWISTED = "types 'l36;', tells = 1, blows 0 12, ticks 12, blows 0 24, ticks 12, blows 0 0, ticks 12,"
        + " TWIST = 34, HEADING = 34";

    private EdgesOfAnswers() {
    }

    static void test(Edges e) {
        nothingIsChanged(e);
        gustWinds(e);
        gustTicks(e);
        gustFromNow(e);
        gustNone(e);
        gust(e);
        dipTicks(e);
        dipFromNow(e);
        dipNone(e);
        dip(e);
        turns(e);
        row(e);
        halvesOfDifferences(e);
        halves(e);
        rain(e);
        seen(e);
        seenAsItIs(e);
        sees(e);
        forget(e);
        which(e);
        ask(e);
    }

    private static void nothingIsChanged(Edges e) {
        e.of(T, "3 (Nothing is changed.)");
        for (String state : new String[] {EdgesOfCalls.FURNISHED, EdgesOfCalls.FULL_OF_ALL, EdgesOfCalls.TRIPPED_AT_REST,
            EdgesOfCalls.UNWINDING, SLOW}) {
            e.leavesAll(state, "gust 1 != BAD, gust 20 != BAD, dip != BAD, halves 0, halves 999, rain 0, rain 1 != BAD, rain 4, which,"
                + " ask != BAD");
        }
    }

    /** What is answered does not trip it when it comes, and every greater WIND does. */
    private static void gustIs(Edges e, String made, int n, int due) {
        Run asked = e.ran(made);
        e.due("gust " + n + " behind " + made, asked.ask("gust " + n), due);
        int from = asked.ask("FROM");
        int wind = asked.ask("WIND");
        int trips = asked.ask("TRIPS");
        for (int gust = Math.max(due, 0); gust <= 40; gust++) {
            Run tried = e.ran(made);
            tried.ask("blows " + gust + " " + from);
            tried.ask("ticks " + n);
            tried.ask("blows " + wind + " " + from);
            tried.ask("ticks " + (60 - n));
            e.due("a trip by " + gust + " for " + n + " behind " + made, tried.ask("TRIPS") - trips, gust == due ? 0 : 1);
        }
    }

    private static void gustWinds(Edges e) {
        e.of(T, "the greatest WIND (0 to 40) by which");
        gustIs(e, "", 1, 40);
        gustIs(e, "", 20, 40);
        gustIs(e, "blows 16 0, ticks 58", 1, 40);
        gustIs(e, "blows 16 0, ticks 58", 2, 37);
        gustIs(e, "blows 4 0, ticks 34", 19, 21);
        gustIs(e, "blows 4 0, ticks 34", 20, 20);
        gustIs(e, "blows 13 0, ticks 44, grids 0", 6, 0);
        gustIs(e, "types 'r78;t79;s5;o29;i3;l43;', tells = 6, blows 16 34, ticks 32", 20, 0);
        gustIs(e, "blows 12 0, ticks 60", 5, 26);
        gustIs(e, "blows 12 0, ticks 60", 12, 20);
        gustIs(e, "blows 12 0, ticks 60", 20, 20);
        // a lesser one may trip it, too
        gustIs(e, "blows 36 0, ticks 22", 20, 40);
        e.run("blows 36 0, ticks 22, gust 20 = 40, blows 8 0, ticks 20, blows 36 0, ticks 40, TRIPS = 1");
    }

    private static void gustTicks(Edges e) {
        e.of(T, "being that for n TICKS from now on, then what it is now for so many more that they are 60 in all, it never becomes"
            + " TRIPPED");
        // the 60th TICK counts
        gustIs(e, "blows 26 0, ticks 7", 7, -9);
        e.run("blows 26 0, ticks 7, gust 7 = NONE, blows 40 0, ticks 7, blows 26 0, ticks 52, TRIPS = 0, ticks 1, TRIPS = 1");
        // the 61st does not
        gustIs(e, "blows 24 0, ticks 7", 14, 40);
        e.run("blows 24 0, ticks 7, gust 14 = 40, blows 40 0, ticks 14, blows 24 0, ticks 46, TRIPS = 0, ticks 1, TRIPS = 1");
        gustIs(e, "types 'r108;t112;s7;o28;i3;l44;', tells = 6, blows 15 0, ticks 1", 16, 40);
        gustIs(e, "types 'r95;t99;s2;o22;i5;l37;', tells = 6, blows 20 0, ticks 7", 17, 40);
        // the n-th counts, the next has the wind of now
        gustIs(e, "blows 16 0, ticks 58", 12, 29);
        gustIs(e, "blows 16 0, ticks 58", 20, 29);
        // the GRID is as it is now
        gustIs(e, EdgesOfCalls.FURNISHED, 3, 40);
    }

    /** All that it has come to by now is looked at: each run has something that would make another answer if it were 0. */
    private static void gustFromNow(Edges e) {
        e.of(T, "being that for n TICKS from now on");
        gustIs(e, "blows 13 3, ticks 31, HEADING = 1", 4, 32);
        gustIs(e, "blows 21 32, ticks 52, HEADING = 34", 2, 30);
        gustIs(e, "blows 28 0, ticks 21, wants 0", 1, 8);
        gustIs(e, "blows 13 0, ticks 30, wants 0", 6, 18);
        gustIs(e, "blows 24 0, ticks 1, GOOD = 1", 7, 25);
        gustIs(e, "blows 24 0, ticks 2, GOOD = 2", 8, 28);
        gustIs(e, "blows 8 0, ticks 26, blows 35 3, ticks 1, STORM = 1", 3, 31);
        gustIs(e, "blows 12 0, ticks 31, grids 0, ticks 3, AWAY = 3", 5, 9);
        gustIs(e, "blows 28 32, ticks 2, OFF = 2", 1, -9);
        gustIs(e, "blows 8 0, ticks 31, blows 4 4, ticks 2, OFF = 2", 9, 35);
        gustIs(e, TWISTED + ", blows 12 34, ticks 15, MODE = STARTING, blows 25 2", 1, 40);
        gustIs(e, TWISTED + ", blows 0 12, ticks 2, TWIST = 36, blows 27 0, ticks 1, UNWINDING = 1", 1, 40);
    }

    private static void gustNone(Edges e) {
        e.of(T, "NONE, if none (or it is TRIPPED).");
        gustIs(e, "blows 28 0, ticks 1", 5, -9);
        // not even 0 is borne, though a little less than none would be
        gustIs(e, "blows 14 0, ticks 32, grids 0", 5, -9);
        gustIs(e, "types 'r84;t96;s3;o31;', tells = 4, blows 13 0, ticks 2, blows 21 0, ticks 19", 18, -9);
        gustIs(e, "blows 27 0, ticks 35, MODE = FAST, SPEED = 131", 17, -9);
        e.run(EdgesOfCalls.TRIPPED_AT_REST + ", gust 1 = NONE, gust 20 = NONE, resets, gust 1 = 40")
            .run("types 'r40;t41;', tells = 2, blows 20 0, ticks 40, MODE = TRIPPED, SPEED != 0, gust 1 = NONE, gust 20 = NONE");
    }

    private static void gust(Edges e) {
        e.of("Promise 15", "GUST; NONE. BAD.")
            .run("gust 0 = BAD, gust 21 = BAD, gust -1 = BAD, gust " + LEAST + " = BAD, gust " + GREATEST + " = BAD, gust 1 = 40,"
                + " gust 20 = 40")
            .leavesAll(EdgesOfCalls.FURNISHED, "gust 0 = BAD, gust 21 = BAD");
        e.of(T, "GUST of n TICKS (1 to 20)")
            .run("blows 16 0, ticks 58, gust 0 = BAD, gust 1 = 40, gust 2 = 37, gust 20 = 29, gust 21 = BAD");
    }

    /** So many TICKS without a GRID are ridden, and any greater number up to 20 is not. */
    private static void dipIs(Edges e, String made, int due) {
        e.due("dip behind " + made, e.ran(made).ask("dip"), due);
        for (int n = Math.max(due, 0); n <= 20; n++) {
            e.due("riding a dip of " + n + " behind " + made, rides(e, made, n, 60) ? 1 : 0, n == due ? 1 : 0);
        }
    }

    private static boolean rides(Edges e, String made, int n, int all) {
        Run tried = e.ran(made);
        for (int tick = 0; tick < all; tick++) {
            if (tick == 0 || tick == n) {
                tried.ask("grids " + (tick < n ? 0 : 1));
            }
            tried.ask("ticks 1");
            int mode = tried.ask("MODE");
            if (mode == 4 || mode == 5) {
                return false;
            }
        }
        return true;
    }

    private static void dipTicks(Edges e) {
        e.of(T, "DIP: the greatest n (0 to 20) so that, the GRID being away for n TICKS from now on, then there for so many more that they"
            + " are 60 in all, MODE is never STOPPING, TRIPPED");
        dipIs(e, SLOW, 3);
        dipIs(e, "blows 20 0, ticks 55, MODE = FAST", 3);
        dipIs(e, "blows 20 0, ticks 27, MODE = SLOW", 2);
        dipIs(e, "blows 14 0, ticks 53, MODE = FAST", 2);
        dipIs(e, "blows 20 0, ticks 28, MODE = SLOW", 1);
        dipIs(e, "blows 17 0, ticks 45, MODE = FAST", 1);
        dipIs(e, "blows 18 0, ticks 34, MODE = SLOW", 0);
        dipIs(e, "blows 18 0, ticks 42, MODE = FAST", 0);
        // a shorter one may not be ridden, though a longer one is
        dipIs(e, "blows 29 0, ticks 20, MODE = SLOW", 2);
        e.due("riding no dip", rides(e, "blows 29 0, ticks 20", 0, 60) ? 1 : 0, 0);
        // the GRID is away already: AWAY goes on
        dipIs(e, SLOW + ", grids 0", 3);
        dipIs(e, SLOW + ", grids 0, ticks 1, AWAY = 1", 2);
        dipIs(e, SLOW + ", grids 0, ticks 2, AWAY = 2", 1);
        dipIs(e, SLOW + ", grids 0, ticks 3, AWAY = 3", 0);
        // the 60th TICK counts, the 61st does not
        String sixtieth = "types 'r93;s2;', tells = 2, blows 21 0, ticks 57, MODE = FAST";
        dipIs(e, sixtieth, 2);
        e.due("59 TICKS of a dip of 3", rides(e, sixtieth, 3, 59) ? 1 : 0, 1);
        dipIs(e, "types 'r100;t108;s1;o27;i9;l53;', tells = 6, blows 19 3, ticks 43", 3);
        String later = "types 't124;i1;s1;', tells = 3, blows 29 0, ticks 51, blows 28 0, ticks 31, MODE = FAST";
        dipIs(e, later, 3);
        e.due("61 TICKS of a dip of 3", rides(e, later, 3, 61) ? 1 : 0, 0);
    }

    /** All that it has come to by now is looked at: each run has something that would make another answer if it were 0. */
    private static void dipFromNow(Edges e) {
        e.of(T, "the GRID being away for n TICKS from now on");
        dipIs(e, "blows 23 0, ticks 28, ices 4", 3);
        dipIs(e, "blows 22 0, ticks 32, ices 4", 2);
        dipIs(e, "blows 26 4, ticks 48, HEADING = 2", 1);
        dipIs(e, "blows 22 33, ticks 48, HEADING = 35", 2);
        dipIs(e, "blows 12 0, ticks 45, blows 26 4, ticks 2, OFF = 2", 0);
        dipIs(e, "blows 22 0, ticks 27, blows 25 4, ticks 1, OFF = 1", 2);
        dipIs(e, TWISTED + ", blows 10 34, ticks 49, blows 18 2", -9);
    }

    private static void dipNone(Edges e) {
        e.of(T, "NONE, if none, or MODE is neither SLOW nor FAST now.");
        dipIs(e, "blows 29 0, ticks 21, MODE = SLOW", -9);
        dipIs(e, "blows 24 0, ticks 33, MODE = FAST", -9);
        dipIs(e, SLOW + ", wants 0", -9);
        e.run("MODE = STOPPED, dip = NONE")
            .run("blows 23 0, ticks 16, MODE = STARTING, dip = NONE, ticks 1, MODE = SLOW, dip != NONE")
            .run(SLOW + ", wants 0, ticks 1, MODE = STOPPING, dip = NONE, wants 1, dip = NONE")
            .run(EdgesOfCalls.TRIPPED_AT_REST + ", dip = NONE");
    }

    private static void dip(Edges e) {
        e.of("Promise 16", "DIP; NONE.")
            .run("dip = NONE, " + SLOW + ", dip = 3, GRID = 1, MODE = SLOW, TICKS = 45, UNDOABLE = 2")
            .leavesAll(SLOW + ", keep 0, types 's5;', grids 0", "dip = 3");
    }

    private static void turns(Edges e) {
        e.of(T, "of THE RECORD, from the oldest on, TURNS: the first, the last, and each at which it changes from rising to falling, from"
            + " falling to rising (of equal ones one behind another one alone counts).")
            .run("rain 4 = 0, ticks 1, rain 4 = 1, ticks 1, rain 4 = 1, ticks 60, rain 4 = 1")
            // 0 0 0 0 0 1
            .run("blows 12 0, ticks 5, rain 4 = 1, ticks 1, rain 4 = 2, ticks 5, rain 4 = 2")
            // up to 7, then down by 1 each: 0 7 6, 0 7 5
            .run(STARTED + ", blows 0 0, ticks 1, rain 4 = 3, ticks 1, rain 4 = 3, ticks 5, SPEED = 0, rain 4 = 3, ticks 9, rain 4 = 3")
            // .. 7 8 9 9 9 8: equal ones at the top are one
            .run(STARTED + ", ices 5, ticks 1 = 8, wants 0, ticks 1 = 9, rain 4 = 2, ticks 1 = 9, ticks 1 = 9, rain 4 = 2, blows 0 0,"
                + " ticks 1 = 8, rain 4 = 3, halves 9 = 1, halves 1 = 1")
            // 88 88 88 behind 87: equal ones at the end; and all 40 are equal at last
            .run("blows 12 0, ticks 52, record 0 = 88, rain 4 = 2, ticks 8, record 8 = 88, record 9 = 87, rain 4 = 2, ticks 30,"
                + " record 38 = 88, record 39 = 87, rain 4 = 2, halves 1 = 1, ticks 1, record 39 = 88, rain 4 = 1, rain 2 = 0")
            // the first is the oldest of 40: 0, then 1, 2 and 3
            .run("blows 12 0, ticks 44, record 39 = 0, SPEED = 80, rain 1 = 80, ticks 1, record 39 = 1, SPEED = 81, rain 1 = 80, ticks 1,"
                + " record 39 = 2, SPEED = 82, rain 1 = 80, rain 4 = 2");
    }

    private static void row(Edges e) {
        e.of(T, "They come to a row, one by one; as long as the last four a, b, c, d in it are so that b and c differ by no more than"
            + " a and b, and no more than c and d: b and c leave the row, and are a CYCLE of as much as they differ.")
            // 0 2 0 4: as much as a and b
            .run("blows 18 0, ticks 6, SPEED = 2, blows 0 0, ticks 2, SPEED = 0, rain 4 = 3, rain 3 = 0, halves 2 = 2, ticks 1, blows 13 0,"
                + " ticks 2, SPEED = 4, rain 4 = 4, rain 3 = 1, halves 2 = 2, halves 4 = 1, rain 2 = 3, rain 0 = 2")
            // 0 52 51 52: as much as c and d
            .run("blows 24 0, ticks 18, SPEED = 52, blows 11 0, ticks 6, SPEED = 52, rain 4 = 4, rain 3 = 1, halves 1 = 2, halves 52 = 1,"
                + " rain 2 = 3, rain 0 = 2")
            // 0 61 59 60: more than c and d
            .run("blows 28 0, ticks 18, SPEED = 61, blows 12 0, ticks 6, SPEED = 60, rain 4 = 4, rain 3 = 0, halves 61 = 1, halves 2 = 1,"
                + " halves 1 = 1, rain 2 = 3, rain 0 = 3")
            // 22 70 18 81: more than a and b
            .run("blows 29 0, ticks 19, blows 14 0, ticks 6, blows 0 0, ticks 6, blows 1 0, ticks 4, blows 0 0, ticks 6, SPEED = 18,"
                + " blows 12 0, ticks 6, blows 26 0, ticks 3, SPEED = 81, record 39 = 22, rain 4 = 4, rain 3 = 0, halves 48 = 1,"
                + " halves 52 = 1, halves 63 = 1, rain 0 = 3, rain 1 = 63")
            // 0 27 21 26 22 68: two leave by one that comes, the inner first
            .run("blows 16 0, ticks 16, SPEED = 27, blows 0 0, ticks 6, SPEED = 21, blows 14 0, ticks 1, SPEED = 26, blows 0 0, ticks 4,"
                + " SPEED = 22, rain 4 = 5, rain 3 = 0, blows 27 0, ticks 4, SPEED = 68, rain 4 = 6, rain 3 = 2, halves 4 = 2,"
                + " halves 6 = 2, halves 68 = 1, rain 0 = 3, rain 2 = 5");
    }

    private static void halvesOfDifferences(Edges e) {
        e.of(T, "HALVES of a difference: twice its CYCLES, and 1 for each two neighbours that are left in the row and differ so.")
            // 0 7 0: neighbours alone
            .run(STARTED + ", blows 0 0, ticks 7, SPEED = 0, rain 3 = 0, halves 7 = 2, rain 0 = 1, rain 2 = 2, halves 6 = 0,"
                + " halves 8 = 0")
            // of THE RECORD as it is: what was counted of a longer one is gone
            .run("blows 28 0, ticks 18, blows 12 0, ticks 6, rain 0 = 3, undo, rain 0 = 1, halves 61 = 1, halves 2 = 0, halves 5 = 0,"
                + " rain 2 = 1")
            // all 40 are TURNS, 74 80 73 80 73 .. 80: each 73 behind the first makes a CYCLE, and 74 80 73 80 are left
            .run("blows 12 0, ticks 45" + ", blows 0 0, ticks 1, blows 20 0, ticks 1".repeat(20) + ", record 39 = 74, record 38 = 80,"
                + " record 37 = 73, record 1 = 73, record 0 = 80, rain 4 = 40, rain 3 = 18, halves 7 = 38, halves 6 = 1, rain 0 = 2,"
                + " rain 1 = 7, rain 2 = 39")
            // one TICK more, and the 74 is lost: 80 73 80 73 .. 73, of which 80 73 are left at last
            .run("blows 12 0, ticks 45" + ", blows 0 0, ticks 1, blows 20 0, ticks 1".repeat(20) + ", blows 0 0, ticks 1, record 39 = 80,"
                + " record 0 = 73, rain 4 = 40, rain 3 = 19, halves 7 = 39, halves 6 = 0, rain 0 = 1, rain 1 = 7, rain 2 = 39");
    }

    private static void halves(Edges e) {
        e.of("Promise 17", "HALVES of a difference (0 .. 999). BAD.")
            .run("halves -1 = BAD, halves 1000 = BAD, halves " + LEAST + " = BAD, halves " + GREATEST + " = BAD")
            .run("halves 0 = 0, halves 999 = 0, ticks 60, halves 0 = 0")
            .run(STARTED + ", halves 7 = 1, halves 6 = 0, halves 8 = 0, halves 0 = 0, halves 999 = 0")
            .leavesAll(EdgesOfCalls.FURNISHED, "halves -1 = BAD, halves 1000 = BAD");
    }

    private static void rain(Edges e) {
        e.of("Promise 18", "RAIN: how many unlike differences have HALVES (what = 0), the greatest of them (1; NONE), all HALVES"
            + " together (2), CYCLES (3), TURNS (4). BAD.")
            .run("rain -1 = BAD, rain 5 = BAD, rain " + LEAST + " = BAD, rain " + GREATEST + " = BAD")
            .run("rain 0 = 0, rain 1 = NONE, rain 2 = 0, rain 3 = 0, rain 4 = 0")
            .run("ticks 1, rain 0 = 0, rain 1 = NONE, rain 2 = 0, rain 3 = 0, rain 4 = 1")
            .run("ticks 60, rain 0 = 0, rain 1 = NONE, rain 2 = 0, rain 3 = 0, rain 4 = 1")
            .run("blows 12 0, ticks 6, rain 0 = 1, rain 1 = 1, rain 2 = 1, rain 3 = 0, rain 4 = 2")
            .leavesAll(EdgesOfCalls.FURNISHED, "rain -1 = BAD, rain 5 = BAD");
    }

    private static int speedBy(Edges e, String made, int n, int wind, int ice) {
        Run tried = e.ran(made);
        tried.ask("ices " + ice);
        tried.ask("blows " + wind + " " + tried.ask("FROM"));
        return tried.ask("ticks " + n);
    }

    /** For each ICE, SEEN what it would make: the bits are of all that make the same. */
    private static void whichIs(Edges e, String made, int n, int wind) {
        int[] speeds = new int[6];
        for (int ice = 0; ice < 6; ice++) {
            speeds[ice] = speedBy(e, made, n, wind, ice);
        }
        for (int x : speeds) {
            int bits = 0;
            for (int ice = 0; ice < 6; ice++) {
                bits |= speeds[ice] == x ? 1 << ice : 0;
            }
            e.run(made + ", sees " + n + " " + wind + " " + x + " = 1, which = " + bits);
        }
    }

    private static void seen(Edges e) {
        e.of(T, "SEEN (6 at most): ICE being unknown, after n TICKS (1 to 20) with a WIND (else all as it is when it is asked) SPEED"
            + " would be x.");
        for (String made : new String[] {STARTED, SLOW, ICED, EdgesOfCalls.TRIPPED_AT_REST}) {
            for (int n : new int[] {1, 2, 19, 20}) {
                for (int wind : new int[] {0, 12, 39, 40}) {
                    whichIs(e, made, n, wind);
                }
            }
        }
        // 1 tick of WIND 12: DRIVE 20 18 16 14 12 10, less 1, by 8: 2 2 1 1 1 1 more; what ICE it has is unknown
        e.run(STARTED + ", sees 1 12 9, which = 3, ices 5, which = 3, ices 2, which = 3")
            // as it is when it is asked: one TICK later 9 is what no ICE would keep it at
            .run(STARTED + ", sees 1 12 9, which = 3, ticks 1, SPEED = 9, which = 0, undo, which = 3, keep 0, blows 0 18, which = 0,"
                + " back 0, which = 3")
            .run("sees 1 0 0 = 1, sees 20 40 999 = 2, sees 1 0 0 = 3, sees 1 0 0 = 4, sees 1 0 0 = 5, sees 1 0 0 = 6, sees 1 0 0 = FULL,"
                + " SEEN = 6, forget = 6, sees 1 0 0 = 1")
            // the sixth is looked at, too
            .run(STARTED + ", sees 1 12 8 x5, which = 60, sees 1 24 10 = 6, which = 12, sees 1 0 999 = FULL, which = 12");
    }

    /** Each run has something that would make SPEED another if it were 0. */
    private static void seenAsItIs(Edges e) {
        e.of(T, "(else all as it is when it is asked)");
        whichIs(e, "blows 11 0, ticks 2, GOOD = 2", 5, 12);
        whichIs(e, "blows 13 0, ticks 1, GOOD = 1", 10, 8);
        whichIs(e, "blows 6 0, ticks 7, blows 37 0, ticks 1, STORM = 1", 13, 33);
        whichIs(e, "blows 9 0, ticks 46, grids 0, AWAY = 0", 2, 4);
        whichIs(e, "blows 22 0, ticks 3, grids 0, ticks 3, AWAY = 3", 3, 24);
        whichIs(e, "blows 12 4, ticks 1, OFF = 1", 7, 24);
        whichIs(e, "blows 22 33, ticks 3, OFF = 3, blows 33 4", 4, 25);
        whichIs(e, TWISTED + ", blows 16 34, ticks 3, blows 31 2", 6, 15);
        whichIs(e, TWISTED + ", blows 0 12, ticks 2, TWIST = 36, blows 27 0, ticks 3, UNWINDING = 1", 11, 13);
        whichIs(e, SLOW + ", wants 0", 5, 12);
    }

    private static void sees(Edges e) {
        e.of("Promise 19", "SEEN (n, a WIND, x 0 .. 999): how much there is. BAD; FULL: 6.")
            .run("sees 0 0 0 = BAD, sees 21 0 0 = BAD, sees 1 -1 0 = BAD, sees 1 41 0 = BAD, sees 1 0 -1 = BAD, sees 1 0 1000 = BAD,"
                + " SEEN = 0, sees 1 0 0 = 1, sees 20 40 999 = 2")
            .run("sees " + LEAST + " 0 0 = BAD, sees " + GREATEST + " 0 0 = BAD, sees 1 " + LEAST + " 0 = BAD, sees 1 " + GREATEST
                + " 0 = BAD, sees 1 0 " + LEAST + " = BAD, sees 1 0 " + GREATEST + " = BAD, SEEN = 0")
            .run("sees 1 0 0 x6, sees 1 0 0 = FULL, sees 0 0 0 = BAD, sees 1 41 0 = BAD, sees 1 0 1000 = BAD, SEEN = 6")
            .leavesAll(EdgesOfCalls.FURNISHED, "sees 0 0 0 = BAD, sees 21 0 0 = BAD, sees 1 -1 0 = BAD, sees 1 41 0 = BAD,"
                + " sees 1 0 -1 = BAD, sees 1 0 1000 = BAD")
            .leavesAll(EdgesOfCalls.FULL_OF_ALL, "sees 1 0 9 = FULL, sees 20 40 999 = FULL, sees 0 0 0 = BAD");
    }

    private static void forget(Edges e) {
        e.of("Promise 20", "Nothing is SEEN: how much was.")
            .run("forget = 0, sees 1 0 9, which = 0, forget = 1, SEEN = 0, which = 63, forget = 0")
            .run("sees 1 0 9 x6, forget = 6, sees 1 0 0 = 1, which = 63")
            .wholeAlike(SLOW + ", keep 0, types 's5;', sees 1 0 9 x6, forget", SLOW + ", keep 0, types 's5;'");
    }

    private static void which(Edges e) {
        e.of(T, "WHICH: 0 to 5 (bits) for ICE by which all that was SEEN is so, as WHICH, ASK are asked.")
            .run("which = 63, sees 1 0 0, which = 63, sees 1 0 1, which = 0")
            // WIND 24: 40 36 32 28 24 20, less 1, by 8: 4 4 3 3 2 2 more
            .run(STARTED + ", which = 63, sees 1 12 9, which = 3, forget, sees 1 12 8, which = 60, sees 1 24 10, which = 12, sees 1 24 9,"
                + " which = 0")
            .run(STARTED + ", sees 1 12 7, which = 0, forget, sees 1 12 10, which = 0");
        e.of("Promise 21", "WHICH, as bits.")
            .run(STARTED + ", sees 1 24 11, which = 3, forget, sees 1 24 9, which = 48");
    }

    /** By telling each WIND, with each ICE that can be, for 10 TICKS. */
    private static void askIs(Edges e, String made, int due) {
        Run asked = e.ran(made);
        int bits = asked.ask("which");
        int best = -9;
        int least = 7;
        for (int wind = 0; wind <= 40; wind++) {
            int[] alike = new int[1000];
            int most = 0;
            for (int ice = 0; ice < 6; ice++) {
                if ((bits >> ice & 1) == 1) {
                    most = Math.max(most, ++alike[speedBy(e, made, 10, wind, ice)]);
                }
            }
            if (most < least) {
                least = most;
                best = wind;
            }
        }
        e.due("the best by ticking, behind " + made, best, due);
        e.due("ask behind " + made, asked.ask("ask"), due);
    }

    private static void ask(Edges e) {
        e.of(T, "ASK: the WIND (0 to 40) by which the greatest number of these by which SPEED behind 10 TICKS is alike is least, of"
            + " several the least WIND; NONE (one can be at most).");
        askIs(e, "", 15);
        askIs(e, "blows 26 0, ticks 41", 40);
        askIs(e, "blows 24 0, ticks 42", 39);
        askIs(e, "blows 21 4, ticks 9", 1);
        askIs(e, STARTED + ", ices 3", 5);
        askIs(e, STARTED + ", ices 3, sees 1 12 8", 5);
        askIs(e, STARTED + ", ices 3, sees 1 12 8, sees 1 24 10, which = 12", 4);
        // no WIND tells: the least of all
        askIs(e, "wants 0", 0);
        askIs(e, "blows 25 0, ticks 46", 0);
        askIs(e, EdgesOfCalls.TRIPPED_AT_REST, 0);
        // two TICKS of WIND 24: 14 with ICE 2, 13 with ICE 3
        e.run(STARTED + ", sees 1 12 8, sees 1 24 10, which = 12, ask != NONE, sees 2 24 13, which = 8, ask = NONE, sees 1 0 999,"
            + " which = 0, ask = NONE, forget, ask != NONE");
        e.of("Promise 22", "ASK; NONE.")
            .run("ask = 15, sees 1 0 1, which = 0, ask = NONE, forget, ask = 15")
            .leavesAll(EdgesOfCalls.FURNISHED, "ask != BAD");
    }
}
