/** The edges of a TICK: each of its parts, (1) to (6), and what bounds it. Where a run comes to was found by a search. */
final class EdgesOfTicks {
    private static final String T = "Terms";
    private static final String STARTING = "blows 12 0, ticks 11, MODE = STARTING, SPEED = 7";
    private static final String SLOW = "blows 11 0, ticks 45, MODE = SLOW, SPEED = 76";
    private static final String FAST = "blows 14 0, ticks 60, MODE = FAST, SPEED = 105";
    private static final String TRIPPED = "types 'r40;t41;', tells = 2, blows 20 0, ticks 40, MODE = TRIPPED";

    private EdgesOfTicks() {
    }

    static void test(Edges e) {
        division(e);
        wound(e);
        goodStormAway(e);
        modeOnce(e);
        tripped(e);
        toStopping(e);
        toStarting(e);
        startingToSlow(e);
        slowToFast(e);
        fastToSlow(e);
        slowToStopping(e);
        stoppingToStopped(e);
        pitchAims(e);
        pitchWhileFast(e);
        pitchByRate(e);
        torque(e);
        error(e);
        drive(e);
        drag(e);
        speed(e);
        off(e);
        unwinding(e);
        turning(e);
        limit(e);
    }

    /**
     * With no WIND, FROM goes ahead of HEADING, up (1) or down (-1), until TWIST is so many: the first two TICKS do not turn
     * it, each one behind does.
     */
    private static String chase(int way, int twist) {
        StringBuilder steps = new StringBuilder();
        int left = twist + 2;
        for (int leg = 1; left > 0; leg++) {
            steps.append("blows 0 ").append(Math.floorMod(way * 12 * leg, 36)).append(", ticks ").append(Math.min(12, left))
                .append(", ");
            left -= 12;
        }
        return steps + "TWIST = " + way * twist + ", HEADING = " + Math.floorMod(way * twist, 36);
    }

    private static String limited(int limit, int way, int twist) {
        return "types 'l" + limit + ";', tells = 1, " + chase(way, twist);
    }

    private static void division(Edges e) {
        e.of("What it is", "\"by\" is division, cut towards 0, but where it is said that it goes down.")
            // FAST: 3 or 7 below RATED, by 4, are 0 and 1 less; 3 or 7 above are 0 and 1 more
            .run("blows 19 0, ticks 56, MODE = FAST, SPEED = 97, PITCH = 54, ticks 1, PITCH = 54")
            .run("blows 16 0, ticks 60, ticks 3, MODE = FAST, SPEED = 93, PITCH = 30, ticks 1, PITCH = 29")
            .run("blows 16 0, ticks 57, MODE = FAST, SPEED = 103, PITCH = 32, ticks 1, PITCH = 32")
            .run("blows 16 0, ticks 55, MODE = FAST, SPEED = 107, PITCH = 30, ticks 1, PITCH = 31")
            // SLOW: half of an odd SPEED
            .run("blows 9 0, ticks 33, MODE = SLOW, SPEED = 49, ticks 1, TORQUE = 24")
            // SPEED goes down: by 1, of 1 by 8 less
            .run(STARTING + ", blows 0 0, ticks 1, SPEED = 6");
    }

    private static void wound(Edges e) {
        e.of(T, "It is WOUND, if TWIST is LIMIT or more away from 0, either way.");
        for (int limit : new int[] {36, 37, 71, 72, 107, 108}) {
            for (int way = -1; way <= 1; way += 2) {
                String near = limited(limit, way, limit - 1);
                String ahead = ", blows 0 " + Math.floorMod(way * (limit - 1), 36);
                // FROM is where HEADING is: it does not turn unless it unwinds
                e.run(near + ahead + ", ticks 3, TWIST = " + way * (limit - 1) + ", UNWINDING = 0");
                String at = limited(limit, way, limit);
                ahead = ", blows 0 " + Math.floorMod(way * limit, 36);
                e.run(at + ahead + ", UNWINDING = 0, ticks 1, TWIST = " + way * (limit - 1) + ", UNWINDING = 1");
            }
        }
    }

    private static void goodStormAway(Edges e) {
        e.of(T, "(1) GOOD is 1 more, if WIND is CUT-IN or more and less than CUT-OUT, else 0; STORM is 1 more, if it is CUT-OUT or"
            + " more, else 0; AWAY is 1 more, if the GRID is away, else 0.")
            .run("wants 0, blows 3 0, ticks 5, GOOD = 0, blows 4 0, ticks 1, GOOD = 1, STORM = 0, blows 29 0, ticks 1, GOOD = 2,"
                + " STORM = 0, blows 30 0, ticks 1, GOOD = 0, STORM = 1, ticks 1, STORM = 2, blows 40 0, ticks 1, STORM = 3,"
                + " GOOD = 0, blows 29 0, ticks 1, STORM = 0, GOOD = 1, blows 3 0, ticks 1, GOOD = 0, STORM = 0")
            .run("types 'i1;o11;', tells = 2, wants 0, ticks 2, GOOD = 0, blows 1 0, ticks 1, GOOD = 1, blows 10 0, ticks 1,"
                + " GOOD = 2, STORM = 0, blows 11 0, ticks 1, GOOD = 0, STORM = 1, blows 0 0, ticks 1, GOOD = 0, STORM = 0")
            .run("types 'i10;o40;', tells = 2, wants 0, blows 9 0, ticks 2, GOOD = 0, blows 10 0, ticks 1, GOOD = 1, blows 39 0,"
                + " ticks 1, GOOD = 2, STORM = 0, blows 40 0, ticks 1, GOOD = 0, STORM = 1")
            .run("ticks 3, AWAY = 0, grids 0, AWAY = 0, ticks 1, AWAY = 1, ticks 5, AWAY = 6, grids 1, AWAY = 6, ticks 1, AWAY = 0")
            // in every MODE
            .run(TRIPPED + ", GOOD = 40, grids 0, ticks 1, GOOD = 41, AWAY = 1, blows 30 0, ticks 2, GOOD = 0, STORM = 2, AWAY = 3");
    }

    private static void modeOnce(Edges e) {
        e.of(T, "(2) MODE changes once at most, by the first of these that is so")
            // FAST with PITCH 0, SPEED 0 and no wind: SLOW in one TICK, STOPPING in the next
            .run("blows 22 0, ticks 39, blows 1 0, ticks 18, MODE = FAST, PITCH = 0, SPEED = 0, ticks 1, MODE = SLOW, ticks 1,"
                + " MODE = STOPPING")
            // STOPPING at rest, with GOOD and WANTED: STOPPED in one, STARTING in the next
            .run("blows 13 0, ticks 3, wants 0, ticks 1, wants 1, MODE = STOPPING, SPEED = 0, PITCH = 90, GOOD = 4, ticks 1,"
                + " MODE = STOPPED, ticks 1, MODE = STARTING")
            // the first of several: above TRIP it is TRIPPED, whatever would make it STOPPING; STOPPING goes ahead of the rest
            .run("blows 16 0, ticks 16, blows 26 0, ticks 18, MODE = FAST, SPEED = 131, wants 0, ticks 1, MODE = TRIPPED")
            .run("blows 23 0, ticks 16, MODE = STARTING, SPEED = 40, wants 0, ticks 1, MODE = STOPPING")
            .run("blows 23 0, ticks 29, MODE = SLOW, SPEED = 100, wants 0, ticks 1, MODE = STOPPING")
            .run("types 't101;', tells = 1, blows 17 0, ticks 36, MODE = SLOW, SPEED = 102, ticks 1, MODE = TRIPPED");
    }

    private static void tripped(Edges e) {
        e.of(T, "SPEED is above TRIP, MODE is 1 to 4: TRIPPED.")
            .run("types 't101;', tells = 1, blows 19 0, ticks 33, MODE = SLOW, SPEED = 101, ticks 1, MODE = FAST, TRIPS = 0")
            .run("types 't101;', tells = 1, blows 17 0, ticks 36, MODE = SLOW, SPEED = 102, TRIPS = 0, ticks 1, MODE = TRIPPED,"
                + " TRIPS = 1")
            .run("blows 23 0, ticks 39, MODE = FAST, SPEED = 130, TRIP = 130, ticks 1, MODE = FAST, TRIPS = 0")
            .run("blows 16 0, ticks 16, blows 26 0, ticks 18, MODE = FAST, SPEED = 131, ticks 1, MODE = TRIPPED, TRIPS = 1")
            .run("blows 19 0, ticks 18, blows 39 0, ticks 11, MODE = STOPPING, SPEED = 130, ticks 1, MODE = STOPPING, TRIPS = 0")
            .run("blows 23 0, ticks 19, blows 36 0, ticks 10, MODE = STOPPING, SPEED = 131, ticks 1, MODE = TRIPPED, TRIPS = 1")
            // TRIPPED, whatever the wind, and WANTED or not, until it is RESET
            .run(TRIPPED + ", ticks 60, wants 0, ticks 60, MODE = TRIPPED, wants 1, blows 0 0, ticks 60, SPEED = 0, PITCH = 90,"
                + " ticks 60, MODE = TRIPPED, TRIPS = 1");
    }

    private static void toStopping(Edges e) {
        e.of(T, "MODE is STARTING, SLOW or FAST, and it is not WANTED, or STORM is 2 or more, or AWAY 4 or more, or it is WOUND:"
            + " STOPPING.");
        for (String running : new String[] {STARTING, SLOW, FAST}) {
            String mode = running.substring(running.indexOf("MODE"), running.lastIndexOf(','));
            e.run(running + ", ticks 1, " + mode + ", wants 0, " + mode + ", ticks 1, MODE = STOPPING");
            e.run(running + ", blows 30 0, ticks 1, STORM = 1, " + mode + ", ticks 1, STORM = 2, MODE = STOPPING");
            e.run(running + ", grids 0, ticks 3, AWAY = 3, " + mode + ", ticks 1, AWAY = 4, MODE = STOPPING");
            // storms and dips that are over in time
            e.run(running + ", blows 30 0, ticks 1, blows 4 0, ticks 1, STORM = 0, " + mode);
            e.run(running + ", grids 0, ticks 3, grids 1, ticks 1, AWAY = 0, " + mode);
        }
        for (int way = -1; way <= 1; way += 2) {
            int heading = Math.floorMod(way * 35, 36);
            int ahead = Math.floorMod(way * 38, 36);
            woundWhile(e, way, "blows 12 " + heading + ", ticks 11, MODE = STARTING", "12 " + ahead, "MODE = STARTING");
            woundWhile(e, way, "blows 11 " + heading + ", ticks 45, MODE = SLOW", "11 " + ahead, "MODE = SLOW");
            woundWhile(e, way, "blows 14 " + heading + ", ticks 60, MODE = FAST", "14 " + ahead, "MODE = FAST");
        }
        e.run(TRIPPED + ", wants 0, ticks 1, MODE = TRIPPED, blows 30 0, grids 0, ticks 5, MODE = TRIPPED")
            .run("wants 0, ticks 3, MODE = STOPPED, blows 40 0, grids 0, ticks 5, MODE = STOPPED");
    }

    /** One step short of LIMIT it runs; the third TICK of ERROR 3 takes the step, the next one sees that it is WOUND. */
    private static void woundWhile(Edges e, int way, String running, String wind, String mode) {
        e.run(limited(36, way, 35) + ", " + running + ", TWIST = " + way * 35 + ", blows " + wind + ", ticks 2, TWIST = " + way * 35
            + ", ticks 1, TWIST = " + way * 36 + ", " + mode + ", ticks 1, MODE = STOPPING, TWIST = " + way * 36 + ", UNWINDING = 0");
    }

    private static void toStarting(Edges e) {
        e.of(T, "STOPPED, WANTED, GOOD 3 or more, AWAY 0, neither WOUND nor UNWINDING: STARTING.")
            .run("blows 12 0, ticks 2, GOOD = 2, MODE = STOPPED, ticks 1, GOOD = 3, MODE = STARTING")
            .run("blows 12 0, ticks 2, blows 3 0, ticks 1, blows 12 0, ticks 2, GOOD = 2, MODE = STOPPED, ticks 1, MODE = STARTING")
            .run("wants 0, blows 12 0, ticks 5, MODE = STOPPED, GOOD = 5, wants 1, ticks 1, MODE = STARTING")
            .run("blows 12 0, ticks 2, grids 0, ticks 1, GOOD = 3, AWAY = 1, MODE = STOPPED, grids 1, ticks 1, AWAY = 0,"
                + " MODE = STARTING")
            .run("blows 3 0, ticks 9, MODE = STOPPED, blows 30 0, ticks 9, MODE = STOPPED")
            // WOUND, but not UNWINDING yet
            .run(limited(36, 1, 33) + ", wants 0, blows 10 8, ticks 3, TWIST = 36, UNWINDING = 0, GOOD = 3, wants 1, ticks 1,"
                + " MODE = STOPPED, UNWINDING = 1")
            // one short of it, it starts
            .run(limited(36, 1, 32) + ", wants 0, blows 10 7, ticks 3, TWIST = 35, UNWINDING = 0, GOOD = 3, wants 1, blows 10 35,"
                + " ticks 1, MODE = STARTING")
            // UNWINDING, and no more WOUND
            .run(limited(36, 1, 36) + ", blows 10 0, ticks 20, UNWINDING = 1, TWIST = 16, GOOD = 20, MODE = STOPPED, ticks 16,"
                + " TWIST = 0, UNWINDING = 1, MODE = STOPPED, ticks 1, UNWINDING = 0, MODE = STOPPED, ticks 1, MODE = STARTING");
    }

    private static void startingToSlow(Edges e) {
        e.of(T, "STARTING, 5 times SPEED is twice RATED or more: SLOW.")
            .run("blows 23 0, ticks 16, MODE = STARTING, SPEED = 40, ticks 1, MODE = SLOW")
            .run("types 'r83;', tells = 1, blows 15 0, ticks 18, MODE = STARTING, SPEED = 33, ticks 1, MODE = STARTING, ticks 1,"
                + " MODE = SLOW")
            .run("types 'r72;', tells = 1, blows 20 0, ticks 15, MODE = STARTING, SPEED = 29, ticks 1, MODE = SLOW");
    }

    private static void slowToFast(Edges e) {
        e.of(T, "SLOW, SPEED is RATED or more: FAST.")
            .run("blows 17 0, ticks 35, MODE = SLOW, SPEED = 99, ticks 1, MODE = SLOW, ticks 1, MODE = FAST")
            .run("blows 23 0, ticks 29, MODE = SLOW, SPEED = 100, ticks 1, MODE = FAST")
            .run("blows 19 0, ticks 33, MODE = SLOW, SPEED = 101, ticks 1, MODE = FAST");
    }

    private static void fastToSlow(Edges e) {
        e.of(T, "FAST, PITCH is 0, SPEED is less than RATED less 5: SLOW.")
            .run("blows 19 0, ticks 33, blows 4 0, ticks 1, MODE = FAST, PITCH = 0, SPEED = 95, ticks 1, MODE = FAST, ticks 1,"
                + " MODE = SLOW")
            .run("blows 18 0, ticks 34, blows 3 0, ticks 1, MODE = FAST, PITCH = 0, SPEED = 94, ticks 1, MODE = SLOW")
            .run("blows 18 0, ticks 36, blows 6 0, ticks 3, MODE = FAST, PITCH = 1, SPEED = 94, ticks 1, MODE = FAST, PITCH = 0,"
                + " ticks 1, MODE = SLOW")
            // far below RATED it stays FAST as long as PITCH is not 0
            .run("blows 23 0, ticks 39, blows 2 0, ticks 19, MODE = FAST, PITCH = 2, SPEED = 1, ticks 1, MODE = FAST, PITCH = 0,"
                + " ticks 1, MODE = SLOW");
    }

    private static void slowToStopping(Edges e) {
        e.of(T, "SLOW, WIND is less than CUT-IN, 5 times SPEED is less than RATED: STOPPING.")
            .run("blows 16 0, ticks 60, blows 3 0, ticks 13, MODE = SLOW, SPEED = 20, ticks 1, MODE = SLOW, SPEED = 17, ticks 1,"
                + " MODE = STOPPING")
            .run("types 'r51;i2;s1;', tells = 3, blows 11 0, ticks 35, blows 1 0, ticks 9, MODE = SLOW, SPEED = 10, ticks 1,"
                + " MODE = STOPPING")
            .run("blows 22 0, ticks 38, blows 4 0, ticks 19, MODE = SLOW, SPEED = 19, ticks 1, MODE = SLOW, SPEED = 17,"
                + " blows 3 0, ticks 1, MODE = STOPPING")
            // STARTING and FAST are not stopped by it
            .run("blows 20 0, ticks 7, blows 3 0, ticks 1, MODE = STARTING, SPEED = 3, ticks 5, MODE = STARTING")
            .run("blows 23 0, ticks 39, blows 2 0, ticks 19, MODE = FAST, SPEED = 1, ticks 1, MODE = FAST");
    }

    private static void stoppingToStopped(Edges e) {
        e.of(T, "STOPPING, SPEED is 0, PITCH is 90: STOPPED.")
            .run("blows 10 0, ticks 16, blows 0 0, ticks 10, wants 0, ticks 23, MODE = STOPPING, SPEED = 0, PITCH = 89, ticks 1,"
                + " MODE = STOPPING, PITCH = 90, ticks 1, MODE = STOPPED")
            .run("blows 14 0, ticks 7, grids 0, ticks 19, MODE = STOPPING, SPEED = 1, PITCH = 90, ticks 1, MODE = STOPPING, SPEED = 0,"
                + " ticks 1, MODE = STOPPED");
    }

    private static void pitchAims(Edges e) {
        e.of(T, "(3) PITCH goes to 20, if it is STARTING, to 0, if SLOW")
            .run("blows 4 0, ticks 25, MODE = STARTING, PITCH = 21, ticks 1, PITCH = 20, ticks 1, MODE = STARTING, PITCH = 20")
            .run("types 's9;', tells = 1, blows 4 0, ticks 9, MODE = STARTING, PITCH = 27, ticks 1, PITCH = 20, ticks 1, PITCH = 20")
            .run("blows 9 0, ticks 33, MODE = SLOW, PITCH = 2, ticks 1, PITCH = 0, ticks 1, MODE = SLOW, PITCH = 0")
            .run("types 's1;', tells = 1, blows 5 0, ticks 60, ticks 32, MODE = SLOW, PITCH = 1, ticks 1, PITCH = 0, ticks 1, PITCH = 0");
        e.of(T, "else to 90: by RATE at most (TRIPPED: twice RATE).")
            .run("ticks 1, MODE = STOPPED, PITCH = 90, ticks 60, PITCH = 90")
            .run("blows 10 0, ticks 16, MODE = STARTING, PITCH = 48, wants 0, ticks 1, MODE = STOPPING, PITCH = 51, ticks 13,"
                + " PITCH = 90, ticks 1, PITCH = 90")
            // the last step is as long as is left
            .run("blows 10 0, ticks 16, blows 0 0, ticks 10, wants 0, ticks 23, MODE = STOPPING, PITCH = 89, ticks 1, PITCH = 90")
            .run("blows 12 0, ticks 19, blows 40 0, ticks 15, MODE = TRIPPED, PITCH = 87, ticks 1, PITCH = 90, ticks 1, PITCH = 90")
            .run("types 't101;', tells = 1, blows 17 0, ticks 36, PITCH = 0, ticks 1, MODE = TRIPPED, PITCH = 6, ticks 14, PITCH = 90,"
                + " ticks 1, PITCH = 90")
            .run("types 't101;s9;', tells = 2, blows 17 0, ticks 24, MODE = SLOW, SPEED = 102, PITCH = 0, ticks 1, MODE = TRIPPED,"
                + " PITCH = 18, ticks 3, PITCH = 72, ticks 1, PITCH = 90, ticks 1, PITCH = 90")
            .run("types 's1;', tells = 1, blows 4 0, ticks 12, MODE = STARTING, PITCH = 80, wants 0, ticks 1, PITCH = 81");
    }

    private static void pitchWhileFast(Edges e) {
        e.of(T, "to PITCH and (SPEED less RATED) by 4, together, but 0 at least, 90 at most, if FAST")
            // RATED 100, RATE 3: SPEED, PITCH, PITCH then
            .run(fast("blows 16 0, ticks 59", 99, 32, 32))
            .run(fast("blows 19 0, ticks 55", 100, 54, 54))
            .run(fast("blows 16 0, ticks 58", 101, 32, 32))
            .run(fast("blows 17 0, ticks 54", 104, 41, 42))
            .run(fast("blows 16 0, ticks 55", 107, 30, 31))
            .run(fast("blows 17 0, ticks 52", 108, 38, 40))
            .run(fast("blows 17 0, ticks 58", 96, 42, 41))
            .run(fast("blows 16 0, ticks 60, ticks 3", 93, 30, 29))
            .run(fast("blows 18 0, ticks 58", 92, 48, 46))
            // 0 at least, 90 at most
            .run(fast("blows 20 0, ticks 37, blows 10 0, ticks 17", 72, 1, 0))
            .run(fast("blows 23 0, ticks 39, blows 2 0, ticks 19", 1, 2, 0))
            .run(fast("types 'r41;s5;', tells = 2, blows 19 0, ticks 31", 56, 89, 90))
            .run(fast("types 'r41;s4;', tells = 2, blows 20 0, ticks 33", 56, 88, 90))
            .run(fast("types 'r40;s6;', tells = 2, blows 20 0, ticks 27", 58, 90, 90));
    }

    private static String fast(String steps, int speed, int pitch, int then) {
        return steps + ", MODE = FAST, SPEED = " + speed + ", PITCH = " + pitch + ", ticks 1, MODE = FAST, PITCH = " + then;
    }

    private static void pitchByRate(Edges e) {
        e.of(T, "by RATE at most (TRIPPED: twice RATE)")
            // FAST, by 3 at most: 11, 12, 15 and 16 above RATED, and as much below
            .run(fast("blows 21 0, ticks 34, blows 16 0, ticks 7", 111, 30, 32))
            .run(fast("blows 17 0, ticks 50", 112, 33, 36))
            .run(fast("blows 23 0, ticks 48", 115, 60, 63))
            .run(fast("blows 22 0, ticks 48", 116, 56, 59))
            .run(fast("blows 22 0, ticks 33, blows 17 0, ticks 18", 89, 39, 37))
            .run(fast("blows 19 0, ticks 59", 88, 51, 48))
            .run(fast("blows 22 0, ticks 56", 85, 59, 56))
            .run(fast("blows 23 0, ticks 56", 84, 60, 57))
            .run("types 's1;', tells = 1, blows 12 0, ticks 2, PITCH = 90, ticks 1, PITCH = 89, ticks 1, PITCH = 88")
            .run("types 's9;', tells = 1, blows 12 0, ticks 2, PITCH = 90, ticks 1, PITCH = 81, ticks 1, PITCH = 72");
    }

    private static void torque(Edges e) {
        e.of(T, "(4) TORQUE goes to SPEED by 2, if it is SLOW, to RATED by 2, if FAST, else to 0: by 10 at most; but it is 0 at once,"
            + " if the GRID is away.")
            .run("blows 23 0, ticks 16, SPEED = 40, TORQUE = 0, ticks 1, MODE = SLOW, TORQUE = 10, ticks 1, TORQUE = 20, SPEED = 49,"
                + " ticks 1, TORQUE = 24")
            .run("blows 9 0, ticks 33, MODE = SLOW, SPEED = 49, ticks 1, TORQUE = 24")
            .run("types 'r41;s5;', tells = 2, blows 19 0, ticks 31, MODE = FAST, TORQUE = 20, ticks 1, MODE = FAST, TORQUE = 20")
            .run(STARTING + ", TORQUE = 0, ticks 1, TORQUE = 0")
            // down by 10 at most, the last step as long as is left
            .run(SLOW + ", TORQUE = 37, wants 0, ticks 1, TORQUE = 27, ticks 1, TORQUE = 17, ticks 1, TORQUE = 7, ticks 1, TORQUE = 0,"
                + " ticks 1, TORQUE = 0")
            .run(FAST + ", TORQUE = 50, wants 0, ticks 4, TORQUE = 10, ticks 1, TORQUE = 0")
            .run("blows 22 0, ticks 39, blows 1 0, ticks 18, MODE = FAST, TORQUE = 50, SPEED = 0, ticks 1, MODE = SLOW, TORQUE = 40")
            // at once without a GRID, by 10 again with it
            .run(FAST + ", grids 0, TORQUE = 50, ticks 1, TORQUE = 0, ticks 1, TORQUE = 0, grids 1, ticks 1, TORQUE = 10, ticks 1,"
                + " TORQUE = 20, ticks 3, TORQUE = 50, ticks 1, TORQUE = 50")
            .run(SLOW + ", grids 0, ticks 1, TORQUE = 0, grids 1, ticks 1, MODE = SLOW, TORQUE = 10");
    }

    private static void error(Edges e) {
        e.of(T, "(5) ERROR is by how many HEADING is from FROM, the shorter way round (0 to 18).");
        StringBuilder all = new StringBuilder();
        for (int from = 1; from < 36; from++) {
            all.append("blows 0 ").append(from).append(", ERROR = ").append(Math.min(from, 36 - from)).append(", ");
        }
        e.run(all + "blows 0 0, ERROR = 0");
        for (int heading : new int[] {17, 18, 19, 35}) {
            StringBuilder some = new StringBuilder(chase(1, heading));
            for (int away = -18; away <= 18; away++) {
                some.append(", blows 1 ").append(Math.floorMod(heading + away, 36)).append(", ERROR = ").append(Math.abs(away));
            }
            e.run(some.toString());
        }
        e.of(T, "HEADING (0 to 35; 0 at first)")
            .run(chase(1, 35) + ", HEADING = 35, ticks 1, HEADING = 0, ticks 1, HEADING = 1")
            .run(chase(-1, 35) + ", HEADING = 1, ticks 1, HEADING = 0, ticks 1, HEADING = 35");
    }

    private static void drive(Edges e) {
        // PITCH 63: 27 of 90
        String at = "blows 12 0, ticks 11, PITCH = 63, ";
        e.of(T, "DRIVE is WIND times (9 less ERROR, 0 at least) times (10 less ICE) times (90 less PITCH), by 1620.")
            .run(at + "DRIVE = 18, blows 0 0, DRIVE = 0, blows 1 0, DRIVE = 1, blows 3 0, DRIVE = 4, blows 40 0, DRIVE = 60")
            .run(at + "blows 40 7, DRIVE = 13, blows 40 8, DRIVE = 6, blows 40 9, DRIVE = 0, blows 40 10, DRIVE = 0, blows 40 18,"
                + " DRIVE = 0, blows 40 26, DRIVE = 0, blows 40 27, DRIVE = 0, blows 40 28, DRIVE = 6, blows 40 35, DRIVE = 53")
            .run(at + "ices 1, DRIVE = 16, ices 2, DRIVE = 14, ices 3, DRIVE = 12, ices 4, DRIVE = 10, ices 5, DRIVE = 9")
            .run(at + "blows 1 0, ices 3, DRIVE = 1, ices 4, DRIVE = 0, ices 5, DRIVE = 0")
            // PITCH 90 and PITCH 0
            .run("blows 40 0, PITCH = 90, DRIVE = 0")
            .run("types 't101;', tells = 1, blows 17 0, ticks 36, PITCH = 0, DRIVE = 85, blows 40 0, DRIVE = 200, ices 5, DRIVE = 100")
            // 5 times 9 times 10 times 3 is less than 1620, 6 times that much is as much
            .run("blows 12 0, ticks 3, PITCH = 87, DRIVE = 2, blows 5 0, DRIVE = 0, blows 6 0, DRIVE = 1, blows 11 0, DRIVE = 1")
            // 25 times 8 times 10 times 17 is 34000: 20 less than 21 times 1620
            .run("types 's1;', tells = 1, blows 12 0, ticks 19, PITCH = 73, blows 25 1, DRIVE = 20")
            // SPEED is driven by DRIVE as it is with the PITCH of this TICK: wind from behind drives nothing
            .run(at + "blows 29 9, ticks 1, SPEED = 6, ticks 1, SPEED = 5, HEADING = 0, ticks 1, SPEED = 4, HEADING = 1");
    }

    private static void drag(Edges e) {
        e.of(T, "DRAG is SPEED by 10 and 1 (0 of SPEED 0).")
            // nothing drives: DRAG 9 of SPEED 80, by 8 down, is 2 less; DRAG 8 of 79 is 1 less
            .run("blows 28 0, ticks 33, blows 0 0, ticks 23, MODE = TRIPPED, TORQUE = 0, SPEED = 80, ticks 1, SPEED = 78, ticks 1,"
                + " SPEED = 77")
            .run("blows 29 0, ticks 33, blows 0 0, ticks 23, MODE = TRIPPED, TORQUE = 0, SPEED = 79, ticks 1, SPEED = 78")
            // DRIVE 8 makes it turn from rest: there is no DRAG
            .run("blows 12 0, ticks 5, SPEED = 0, PITCH = 81, ticks 1, PITCH = 78, DRIVE = 8, SPEED = 1")
            // of SPEED 1 there is: DRIVE 10 less 1 is 1 more, DRIVE 8 less 1 is nothing
            .run("blows 12 0, ticks 6, SPEED = 1, ticks 1, DRIVE = 10, SPEED = 2")
            .run("blows 12 0, ticks 6, SPEED = 1, blows 10 0, ticks 1, DRIVE = 8, SPEED = 1");
    }

    private static void speed(Edges e) {
        e.of(T, "SPEED is (DRIVE less TORQUE less DRAG) by 8, down, more; 0 at least.")
            .run(STARTING + ", blows 0 0, ticks 1, SPEED = 6, ticks 5, SPEED = 1, ticks 1, SPEED = 0, ticks 1, SPEED = 0")
            // DRIVE 10 less TORQUE 50 less DRAG 1 would take more than there is
            .run("blows 23 0, ticks 39, blows 2 0, ticks 19, MODE = FAST, SPEED = 1, TORQUE = 50, ticks 1, DRIVE = 10, TORQUE = 50,"
                + " SPEED = 0, ticks 1, SPEED = 0, record 0 = 0, record 1 = 0");
    }

    private static void off(Edges e) {
        e.of(T, "(6) OFF is 1 more, if ERROR (as in 5) is above 2, else 0.")
            .run("blows 0 2, ticks 9, OFF = 0, HEADING = 0, blows 0 3, ticks 1, OFF = 1, ticks 1, OFF = 2, blows 0 2, ticks 1, OFF = 0")
            .run("blows 0 34, ticks 9, OFF = 0, HEADING = 0, blows 0 33, ticks 1, OFF = 1")
            .run("blows 0 18, ticks 1, OFF = 1")
            // the TICK that turns it from ERROR 3 to ERROR 2 still counts; the next does not
            .run("blows 0 3, ticks 3, ERROR = 2, OFF = 3, ticks 1, OFF = 0, HEADING = 1");
    }

    private static void unwinding(Edges e) {
        e.of(T, "UNWINDING begins, if it is STOPPED and WOUND; it ends, if TWIST is 0 or it is not STOPPED. UNWINDING, HEADING turns by 1"
            + " so that TWIST is 1 nearer to 0.");
        for (int way = -1; way <= 1; way += 2) {
            int from = Math.floorMod(way * 8, 36);
            String near = limited(36, way, 35) + ", blows 0 " + from;
            // whatever FROM is, it unwinds; HEADING goes round on its way
            e.run(near + ", UNWINDING = 0, ticks 1, TWIST = " + way * 36 + ", HEADING = 0, UNWINDING = 0, ticks 1, UNWINDING = 1, TWIST = "
                + way * 35 + ", HEADING = " + Math.floorMod(way * 35, 36) + ", ticks 34, TWIST = " + way + ", UNWINDING = 1, HEADING = "
                + Math.floorMod(way, 36) + ", ticks 1, TWIST = 0, HEADING = 0, UNWINDING = 1, ticks 1, UNWINDING = 0, TWIST = " + way);
            // there it stays, if FROM is there
            e.run(limited(36, way, 36) + ", blows 0 0, ticks 36, TWIST = 0, UNWINDING = 1, ticks 1, TWIST = 0, UNWINDING = 0, ticks 9,"
                + " TWIST = 0, HEADING = 0, UNWINDING = 0");
            // WOUND, but STOPPING: the TICK that makes it STOPPED begins to unwind
            int heading = Math.floorMod(way * 35, 36);
            e.run(limited(36, way, 35) + ", blows 12 " + heading + ", ticks 3, MODE = STARTING, blows 12 " + Math.floorMod(way * 38, 36)
                + ", ticks 3, TWIST = " + way * 36 + ", MODE = STARTING, blows 0 " + heading + ", ticks 1, MODE = STOPPING, UNWINDING = 0,"
                + " ticks 2, MODE = STOPPING, PITCH = 87, TWIST = " + way * 36 + ", ticks 1, PITCH = 90, SPEED = 0, MODE = STOPPING,"
                + " UNWINDING = 0, ticks 1, MODE = STOPPED, UNWINDING = 1, TWIST = " + way * 35);
        }
    }

    private static void turning(Edges e) {
        e.of(T, "Else, if MODE is 0 to 3 and OFF is 3 or more, HEADING turns by 1 towards FROM, the shorter way (of 18: up)")
            .run("blows 0 3, ticks 2, HEADING = 0, ticks 1, HEADING = 1, ticks 9, HEADING = 1")
            .run("blows 0 33, ticks 2, HEADING = 0, ticks 1, HEADING = 35, ticks 9, HEADING = 35")
            .run("blows 0 17, ticks 3, HEADING = 1, TWIST = 1")
            .run("blows 0 18, ticks 3, HEADING = 1, TWIST = 1, ticks 1, HEADING = 2")
            .run("blows 0 19, ticks 3, HEADING = 35, TWIST = -1")
            .run(chase(1, 20) + ", blows 0 2, ERROR = 18, ticks 1, HEADING = 21, TWIST = 21")
            .run(chase(1, 20) + ", blows 0 3, ERROR = 17, ticks 1, HEADING = 19, TWIST = 19")
            .run(chase(-1, 1) + ", blows 0 17, ERROR = 18, ticks 1, HEADING = 0, TWIST = 0")
            // STARTING, SLOW and FAST, too
            .run(STARTING + ", blows 12 3, ticks 2, HEADING = 0, ticks 1, HEADING = 1, MODE = STARTING")
            .run(SLOW + ", blows 11 3, ticks 2, HEADING = 0, ticks 1, HEADING = 1, MODE = SLOW")
            .run(FAST + ", blows 14 3, ticks 2, HEADING = 0, ticks 1, HEADING = 1, MODE = FAST")
            // STOPPING and TRIPPED: OFF counts, but it does not turn
            .run(STARTING + ", blows 12 9, wants 0, ticks 9, MODE = STOPPING, OFF = 9, HEADING = 0, TWIST = 0")
            .run(TRIPPED + ", blows 12 9, ticks 9, MODE = TRIPPED, OFF = 9, HEADING = 0, TWIST = 0");
        e.of(T, "Turning up, HEADING and TWIST are 1 more (35: 0), down 1 less.")
            .run(chase(1, 35) + ", HEADING = 35, TWIST = 35, ticks 1, HEADING = 0, TWIST = 36")
            .run("blows 0 30, ticks 2, HEADING = 0, TWIST = 0, ticks 1, HEADING = 35, TWIST = -1, ticks 1, HEADING = 34, TWIST = -2")
            .run(chase(-1, 35) + ", HEADING = 1, TWIST = -35, ticks 1, HEADING = 0, TWIST = -36, ticks 1, HEADING = 35, TWIST = -37");
    }

    /** WOUND makes it stop or unwind ahead of a step beyond LIMIT: what can be seen is that TWIST never is beyond it. */
    private static void limit(Edges e) {
        e.of(T, "unless TWIST would be more than LIMIT away from 0 by that");
        for (int limit : new int[] {36, 108}) {
            for (int way = -1; way <= 1; way += 2) {
                String at = limited(limit, way, limit);
                int ahead = Math.floorMod(way * (limit + 9), 36);
                e.run(at + ", blows 0 " + ahead + ", OFF != 0, ticks 1, TWIST = " + way * (limit - 1) + ", ticks 1, TWIST = "
                    + way * (limit - 2));
            }
        }
    }
}
