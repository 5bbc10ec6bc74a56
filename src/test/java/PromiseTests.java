/**
 * Each promise by itself: ordinary inputs, wrong inputs. Answers by hand; those of gust, dip and ask are worked out in
 * EdgesOfAnswers.
 */
public final class PromiseTests {
    private static int wrong = 0;

    private static void due(String what, int got, int want) {
        if (got != want) {
            wrong++;
            System.out.println(what + " answered " + got + ", due is " + want);
        }
    }

    private static void typeAll(HeldBlades x, String letters) {
        for (int i = 0; i < letters.length(); i++) {
            x.type(letters.charAt(i));
        }
    }

    private static HeldBlades told(String letters) {
        HeldBlades x = new HeldBlades();
        typeAll(x, letters);
        int answer = x.tells();
        if (answer < 0) {
            wrong++;
            System.out.println("tells() of '" + letters + "' answered " + answer);
        }
        return x;
    }

    private static void tellsDue(String letters, int want) {
        HeldBlades x = new HeldBlades();
        typeAll(x, letters);
        due("tells() of '" + letters + "'", x.tells(), want);
        due("count(4) behind tells() of '" + letters + "'", x.count(4), want < 0 ? letters.length() : 0);
    }

    private static void nowDue(String when, HeldBlades x, int... wants) {
        for (int what = 0; what < wants.length; what++) {
            due(when + ": now(" + what + ")", x.now(what), wants[what]);
        }
    }

    private static void settingsDue(String when, HeldBlades x, int... wants) {
        for (int what = 0; what < wants.length; what++) {
            due(when + ": setting(" + what + ")", x.setting(what), wants[what]);
        }
    }

    private static void speedsDue(String when, HeldBlades x, int... wants) {
        for (int i = 0; i < wants.length; i++) {
            due(when + ": ticks(1) the " + (i + 1) + ".", x.ticks(1), wants[i]);
        }
    }

    /** Running FAST or SLOW, in a wind of 12 from ahead, after so many ticks. */
    private static HeldBlades running(int ticks) {
        HeldBlades x = new HeldBlades();
        x.blows(12, 0);
        x.ticks(ticks);
        return x;
    }

    public static void main(String[] args) {
        constants();
        newObject();
        type();
        clear();
        tellsGood();
        tellsFaults();
        tellsStartsAnew();
        blows();
        ices();
        gridsAndWants();
        resets();
        ticksByHand();
        ticksModes();
        ticksTrip();
        ticksEdges();
        turning();
        unwinding();
        undo();
        now();
        setting();
        record();
        gust();
        dip();
        rain();
        seesAndForget();
        whichAndAsk();
        images();
        count();
        System.out.println(wrong == 0 ? "all answers are as due" : wrong + " answers are not as due");
        if (wrong != 0) {
            System.exit(1);
        }
    }

    private static void constants() {
        due("BAD", HeldBlades.BAD, -1);
        due("STATE", HeldBlades.STATE, -2);
        due("FULL", HeldBlades.FULL, -3);
        due("NONE", HeldBlades.NONE, -9);
        due("NO", HeldBlades.NO, -1000000);
    }

    private static void newObject() {
        HeldBlades x = new HeldBlades();
        nowDue("new", x, 0, 0, 90, 0, 0, 0, 0, 0, 0, 1, 1, 0, 0, 0, 0, 0, 0, 0);
        settingsDue("new", x, 100, 130, 4, 30, 72, 3);
        for (int what = 0; what < 6; what++) {
            due("new: count(" + what + ")", x.count(what), 0);
        }
        due("new: record(0)", x.record(0), -9);
        due("new: undo()", x.undo(), -2);
        due("new: back(0)", x.back(0), -2);
        due("new: back(1)", x.back(1), -2);
    }

    private static void type() {
        HeldBlades x = new HeldBlades();
        due("type(-1)", x.type(-1), -1);
        due("type(256)", x.type(256), -1);
        due("type(least)", x.type(Integer.MIN_VALUE), -1);
        due("type(0)", x.type(0), 1);
        due("type(255)", x.type(255), 2);
        for (int i = 3; i <= 80; i++) {
            due("type(32)", x.type(32), i);
        }
        due("the 81st type(32)", x.type(32), -3);
        due("the 81st type(256)", x.type(256), -1);
        due("count(4), full", x.count(4), 80);
    }

    private static void clear() {
        HeldBlades x = new HeldBlades();
        due("clear(), empty", x.clear(), 0);
        typeAll(x, "r5x");
        due("clear()", x.clear(), 3);
        due("clear() again", x.clear(), 0);
        due("type behind clear", x.type('i'), 1);
        typeAll(x, "7;");
        due("tells behind clear", x.tells(), 1);
        due("setting(2)", x.setting(2), 7);
    }

    private static void tellsGood() {
        tellsDue("", 0);
        tellsDue("     ", 0);
        tellsDue(" r  40 ;  ", 1);
        settingsDue("r40;", told("r40;"), 40, 70, 4, 30, 72, 3);
        settingsDue("r120;", told("r120;"), 120, 150, 4, 30, 72, 3);
        settingsDue("r40;t41;", told("r40;t41;"), 40, 41, 4, 30, 72, 3);
        settingsDue("r120;s1;t200;", told("r120;s1;t200;"), 120, 200, 4, 30, 72, 1);
        settingsDue("t101;", told("t101;"), 100, 101, 4, 30, 72, 3);
        settingsDue("t200;", told("t200;"), 100, 200, 4, 30, 72, 3);
        settingsDue("least", told("s1;l36;o11;i1;"), 100, 130, 1, 11, 36, 1);
        settingsDue("most", told("i10;o40;l108;s9;"), 100, 130, 10, 40, 108, 9);
        HeldBlades x = told("r60;i7;");
        typeAll(x, "s2;");
        due("tells of another", x.tells(), 1);
        settingsDue("what is not told is as at first", x, 100, 130, 4, 30, 72, 2);
    }

    private static void tellsFaults() {
        tellsDue("r39;", -11);
        tellsDue("r121;", -11);
        tellsDue("r40;t40;", -15);
        tellsDue("r120;t120;", -16);
        tellsDue("r40;t201;", -15);
        tellsDue("t100;", -11);
        tellsDue("t201;", -11);
        tellsDue("i0;", -11);
        tellsDue("i11;", -11);
        tellsDue("o10;", -11);
        tellsDue("o41;", -11);
        tellsDue("l35;", -11);
        tellsDue("l109;", -11);
        tellsDue("s0;", -11);
        tellsDue("s10;", -11);
        tellsDue("t150;i3; r50;", -19);
        tellsDue("i3;i3;", -13);
        tellsDue("s3;  s  3;", -15);
        tellsDue("s03;", -11);
        tellsDue("s00;", -11);
        tellsDue("s 0003;", -12);
        tellsDue("r256;", -11);
        tellsDue("s4294967299;", -11);
        tellsDue("s3 3;", -13);
        tellsDue("s5;7;", -13);
        tellsDue("s5;;", -13);
        tellsDue(";", -10);
        tellsDue("ss", -11);
        tellsDue("s;", -11);
        tellsDue("s5r", -12);
        tellsDue("S5;", -10);
        tellsDue("s5,", -12);
        tellsDue("s5;\t", -13);
        tellsDue("5x", -10);
        tellsDue("s", -11);
        tellsDue("s   ", -14);
        tellsDue("  s5 ", -15);
        tellsDue("i3;s5", -15);
        tellsDue("s99", -11);
        HeldBlades x = told("r60;");
        x.blows(9, 3);
        x.keep(1);
        x.sees(1, 1, 1);
        typeAll(x, "s5;s6;");
        due("tells with a fault", x.tells(), -13);
        settingsDue("behind a fault", x, 60, 90, 4, 30, 72, 3);
        due("WIND behind a fault", x.now(4), 9);
        due("SEEN behind a fault", x.count(3), 1);
        due("UNDONE behind a fault", x.count(5), 1);
        due("letters behind a fault", x.count(4), 6);
        due("IMAGE behind a fault", x.back(1), 0);
    }

    private static void tellsStartsAnew() {
        HeldBlades x = running(30);
        x.blows(25, 7);
        x.ices(3);
        x.grids(0);
        x.wants(0);
        x.ticks(5);
        anewDue("stopping", x);
        x = running(40);
        x.blows(12, 5);
        x.ticks(5);
        due("ahead of it: TORQUE", x.now(3) > 0 ? 1 : 0, 1);
        due("ahead of it: TWIST", x.now(7), 3);
        anewDue("turned", x);
        x = running(40);
        x.blows(35, 0);
        x.ticks(1);
        due("ahead of it: STORM", x.now(12), 1);
        anewDue("storm", x);
        anewDue("tripped", tripped());
        x = wound(1);
        x.ticks(1);
        due("ahead of it: UNWINDING", x.now(15), 1);
        anewDue("unwinding", x);
    }

    private static void anewDue(String when, HeldBlades x) {
        x.keep(0);
        x.keep(1);
        x.sees(2, 3, 4);
        due("tells() of nothing, " + when, x.tells(), 0);
        settingsDue("told", x, 100, 130, 4, 30, 72, 3);
        nowDue("told", x, 0, 0, 90, 0, 0, 0, 0, 0, 0, 1, 1, 0, 0, 0, 0, 0, 0, 0);
        for (int what = 0; what < 6; what++) {
            due("told: count(" + what + ")", x.count(what), 0);
        }
        due("told: record(0)", x.record(0), -9);
        due("told: undo()", x.undo(), -2);
        due("told: back(0)", x.back(0), -2);
        due("told: back(1)", x.back(1), -2);
        due("told: rain(4)", x.rain(4), 0);
    }

    private static void blows() {
        HeldBlades x = new HeldBlades();
        due("blows(-1, 0)", x.blows(-1, 0), -1);
        due("blows(41, 0)", x.blows(41, 0), -1);
        due("blows(0, -1)", x.blows(0, -1), -1);
        due("blows(0, 36)", x.blows(0, 36), -1);
        due("blows(0, 0)", x.blows(0, 0), -2);
        due("UNDONE behind refusals", x.count(5), 0);
        due("blows(0, 35)", x.blows(0, 35), 0);
        due("ERROR of 35", x.now(17), 1);
        due("blows(40, 35)", x.blows(40, 35), 0);
        due("blows(40, 35) again", x.blows(40, 35), -2);
        due("blows(7, 0)", x.blows(7, 0), 40);
        due("WIND", x.now(4), 7);
        due("FROM", x.now(5), 0);
        due("UNDONE", x.count(5), 3);
    }

    private static void ices() {
        HeldBlades x = new HeldBlades();
        due("ices(-1)", x.ices(-1), -1);
        due("ices(6)", x.ices(6), -1);
        due("ices(0)", x.ices(0), -2);
        due("ices(5)", x.ices(5), 0);
        due("ices(5) again", x.ices(5), -2);
        due("ices(1)", x.ices(1), 5);
        due("ICE", x.now(8), 1);
        due("UNDONE", x.count(5), 2);
    }

    private static void gridsAndWants() {
        HeldBlades x = running(3);
        due("grids(-1)", x.grids(-1), -1);
        due("grids(2)", x.grids(2), -1);
        due("grids(1)", x.grids(1), -2);
        due("wants(-1)", x.wants(-1), -1);
        due("wants(2)", x.wants(2), -1);
        due("wants(1)", x.wants(1), -2);
        due("UNDONE behind refusals", x.count(5), 2);
        due("grids(0)", x.grids(0), 1);
        due("grids(0) again", x.grids(0), -2);
        due("GRID", x.now(9), 0);
        due("wants(0)", x.wants(0), 1);
        due("wants(0) again", x.wants(0), -2);
        due("WANTED", x.now(10), 0);
        due("UNDONE", x.count(5), 4);
        x.ticks(1);
        due("grids(1), stopping", x.grids(1), 4);
        due("wants(1), stopping", x.wants(1), 4);
        due("GRID again", x.now(9), 1);
        due("WANTED again", x.now(10), 1);
    }

    private static void resets() {
        HeldBlades x = tripped();
        x.blows(0, 0);
        due("resets(), fast", x.resets(), -2);
        for (int i = 0; i < 200 && x.now(1) > 0; i++) {
            due("resets(), still turning", x.resets(), -2);
            x.ticks(1);
        }
        int pitch = x.now(2);
        due("MODE ahead of resets", x.now(0), 5);
        due("resets()", x.resets(), 0);
        due("MODE behind resets", x.now(0), 0);
        due("PITCH behind resets", x.now(2), pitch);
        due("TRIPS behind resets", x.count(2), 1);
        due("resets() again", x.resets(), -2);
        x.undo();
        due("MODE behind undo", x.now(0), 5);
        HeldBlades y = told("r40;t41;");
        y.blows(20, 4);
        for (int i = 0; i < 60 && y.now(0) != 5; i++) {
            y.ticks(1);
        }
        y.blows(0, 4);
        y.ticks(60);
        due("resets() answers HEADING", y.resets(), y.now(6));
        due("HEADING is not 0", y.now(6) == 0 ? 0 : 1, 1);
    }

    private static HeldBlades tripped() {
        HeldBlades x = told("r40;t41;");
        x.blows(20, 0);
        for (int i = 0; i < 60 && x.now(0) != 5; i++) {
            x.ticks(1);
        }
        due("it trips", x.now(0), 5);
        due("it trips once", x.count(2), 1);
        return x;
    }

    private static void ticksByHand() {
        HeldBlades x = new HeldBlades();
        due("ticks(0)", x.ticks(0), -1);
        due("ticks(-1)", x.ticks(-1), -1);
        due("ticks(61)", x.ticks(61), -1);
        x.blows(12, 0);
        speedsDue("starting", x, 0, 0, 0, 0, 0, 1, 2, 3, 4, 5, 7);
        nowDue("started", x, 1, 7, 63, 0, 12, 0, 0, 0, 0, 1, 1, 11, 0, 0, 0, 0, 18, 0);
        // drive 18, drag 1: 17 by 8; with ice 5 half the drive
        x.ices(5);
        due("DRIVE with ice", x.now(16), 9);
        // pitch 60: 12 * 9 * 5 * 30 by 1620 is 10, drag 1
        speedsDue("iced", x, 8);
        x.wants(0);
        // STOPPING: pitch 63, drive 9, drag 1; 66, 8, 1; 69, 7, 1
        speedsDue("stopping", x, 9, 9, 9);
        due("MODE stopping", x.now(0), 4);
        due("PITCH stopping", x.now(2), 69);
        x.blows(0, 0);
        speedsDue("no wind: what is below 0 goes down", x, 8, 7, 6, 5, 4, 3, 2, 1, 0, 0);
        due("PITCH at its end", x.now(2), 90);
        due("MODE stopped", x.now(0), 0);
    }

    private static void ticksModes() {
        HeldBlades x = running(2);
        nowDue("two good ticks", x, 0, 0, 90);
        x.ticks(1);
        nowDue("three good ticks", x, 1, 0, 87);
        HeldBlades slow = running(20);
        int guard = 0;
        while (slow.now(1) < 40 && guard < 60) {
            due("STARTING below 40", slow.now(0), 1);
            slow.ticks(1);
            guard++;
        }
        int speed = slow.now(1);
        int pitch = slow.now(2);
        slow.ticks(1);
        due("SLOW from 40 on", slow.now(0), 2);
        due("PITCH goes to 0", slow.now(2), Math.max(0, pitch - 3));
        due("TORQUE goes by 10 at most", slow.now(3), Math.min(10, speed / 2));
        slow.ticks(60);
        slow.blows(0, 0);
        for (int i = 0; i < 60 && slow.now(1) >= 20; i++) {
            due("SLOW in less wind", slow.now(0), 2);
            slow.ticks(1);
        }
        due("it went below 20", slow.now(1) < 20 ? 1 : 0, 1);
        slow.keep(0);
        slow.blows(4, 0);
        slow.ticks(1);
        due("below 20, but wind of CUT-IN: SLOW", slow.now(0), 2);
        slow.back(0);
        slow.blows(3, 0);
        slow.ticks(1);
        due("below 20, less wind: STOPPING", slow.now(0), 4);
        HeldBlades away = running(40);
        away.grids(0);
        away.ticks(1);
        due("TORQUE without a grid", away.now(3), 0);
        away.ticks(2);
        due("AWAY 3", away.now(13), 3);
        due("MODE, AWAY 3", away.now(0) == 4 ? 1 : 0, 0);
        away.ticks(1);
        due("MODE, AWAY 4", away.now(0), 4);
        away.grids(1);
        away.ticks(1);
        due("AWAY again 0", away.now(13), 0);
        HeldBlades storm = running(10);
        storm.blows(30, 0);
        storm.ticks(1);
        nowDue("STORM 1", storm, 1);
        due("GOOD in a storm", storm.now(11), 0);
        due("STORM", storm.now(12), 1);
        storm.ticks(1);
        nowDue("STORM 2", storm, 4);
        storm.blows(29, 0);
        storm.ticks(1);
        due("STORM is over", storm.now(12), 0);
        due("GOOD begins", storm.now(11), 1);
    }

    private static void ticksTrip() {
        // r40;t41: SPEED goes above 41 without its being FAST long enough; the tick behind is TRIPPED, with twice RATE
        HeldBlades x = told("r40;t41;s9;");
        x.blows(25, 0);
        int guard = 0;
        while (x.now(1) <= 41 && guard < 60) {
            due("not yet TRIPPED", x.now(0) == 5 ? 1 : 0, 0);
            x.ticks(1);
            guard++;
        }
        due("the tick above TRIP itself is not TRIPPED", x.now(0) == 5 ? 1 : 0, 0);
        due("TRIPS ahead", x.count(2), 0);
        int pitch = x.now(2);
        x.ticks(1);
        due("TRIPPED", x.now(0), 5);
        due("TRIPS", x.count(2), 1);
        due("PITCH by twice RATE", x.now(2), Math.min(90, pitch + 18));
        x.ticks(60);
        due("it stays TRIPPED", x.now(0), 5);
        due("TRIPS, once", x.count(2), 1);
        x.undo();
        x.undo();
        due("TRIPS undone", x.count(2), 0);
    }

    private static void ticksEdges() {
        HeldBlades x = new HeldBlades();
        for (int i = 0; i < 166; i++) {
            due("ticks(60)", x.ticks(60), 0);
        }
        due("count(0), 9960", x.count(0), 9960);
        due("ticks(40), too many", x.ticks(40), -3);
        due("ticks(61), too many", x.ticks(61), -1);
        due("ticks(39)", x.ticks(39), 0);
        due("count(0), 9999", x.count(0), 9999);
        due("ticks(1), too many", x.ticks(1), -3);
        due("undo()", x.undo(), 5);
        due("ticks(39) again", x.ticks(39), 0);
        due("gust(20) at the end", x.gust(20), 40);
    }

    private static void turning() {
        HeldBlades x = new HeldBlades();
        x.blows(0, 2);
        x.ticks(10);
        due("ERROR 2: OFF", x.now(14), 0);
        due("ERROR 2: HEADING", x.now(6), 0);
        x.blows(0, 33);
        x.ticks(2);
        due("ERROR 3: OFF", x.now(14), 2);
        due("ERROR 3, OFF 2: HEADING", x.now(6), 0);
        x.ticks(1);
        due("down: HEADING", x.now(6), 35);
        due("down: TWIST", x.now(7), -1);
        due("down: OFF", x.now(14), 3);
        due("down: ERROR now", x.now(17), 2);
        x.ticks(1);
        due("down, near: OFF", x.now(14), 0);
        due("down, near: HEADING", x.now(6), 35);
        x.blows(0, 17);
        x.ticks(3);
        due("of 18 up: HEADING", x.now(6), 0);
        due("of 18 up: TWIST", x.now(7), 0);
        x.blows(0, 19);
        x.ticks(1);
        due("of 19 up, 17 down: HEADING", x.now(6), 35);
        due("of 19 up, 17 down: TWIST", x.now(7), -1);
        // ERROR 9 and more: no drive; MODE STOPPING does not turn
        HeldBlades y = running(20);
        y.blows(12, 9);
        due("DRIVE of ERROR 9", y.now(16), 0);
        y.blows(12, 8);
        due("DRIVE of ERROR 8", y.now(16), 12 * 10 * (90 - y.now(2)) / 1620);
        y.blows(12, 18);
        due("DRIVE of ERROR 18", y.now(16), 0);
        y.wants(0);
        y.ticks(4);
        due("STOPPING: OFF", y.now(14), 4);
        due("STOPPING: HEADING", y.now(6), 0);
    }

    /** With no wind it turns after FROM, which goes ahead of it, up (1) or down (-1), until the cable is WOUND. */
    private static HeldBlades wound(int way) {
        HeldBlades x = told("l36;");
        for (int i = 1; i <= 3; i++) {
            x.blows(0, Math.floorMod(way * i * 12, 36));
            x.ticks(i == 3 ? 11 : 12);
        }
        // it begins with the third tick, and goes on in each one then
        due("TWIST on the way", x.now(7), way * 33);
        x.blows(0, Math.floorMod(way * 8, 36));
        x.ticks(2);
        due("TWIST next to LIMIT", x.now(7), way * 35);
        x.ticks(1);
        due("TWIST at LIMIT", x.now(7), way * 36);
        due("HEADING at LIMIT", x.now(6), 0);
        due("UNWINDING", x.now(15), 0);
        return x;
    }

    private static void unwinding() {
        for (int way = -1; way <= 1; way += 2) {
            HeldBlades x = wound(way);
            x.blows(10, Math.floorMod(way * 8, 36));
            x.ticks(1);
            due("UNWINDING begins", x.now(15), 1);
            due("TWIST nearer", x.now(7), way * 35);
            due("HEADING follows", x.now(6), way == 1 ? 35 : 1);
            x.ticks(34);
            due("TWIST 1", x.now(7), way);
            x.ticks(1);
            due("TWIST 0", x.now(7), 0);
            due("still UNWINDING", x.now(15), 1);
            due("still STOPPED", x.now(0), 0);
            x.ticks(1);
            due("UNWINDING ends", x.now(15), 0);
            due("STOPPED in this tick, too", x.now(0), 0);
            due("it turns to the wind", x.now(7), way);
            x.ticks(1);
            due("STARTING", x.now(0), 1);
        }
        woundWhileRunning();
    }

    /** Next to LIMIT it starts; one step more makes it STOPPING, and it does not turn then. */
    private static void woundWhileRunning() {
        HeldBlades x = wound(-1);
        x.undo();
        due("TWIST next to LIMIT", x.now(7), -35);
        x.blows(10, 1);
        x.ticks(3);
        due("STARTING", x.now(0), 1);
        x.blows(10, 30);
        x.ticks(3);
        due("TWIST at LIMIT", x.now(7), -36);
        due("STARTING in this tick", x.now(0), 1);
        x.ticks(1);
        due("WOUND: STOPPING", x.now(0), 4);
        due("TWIST stays", x.now(7), -36);
    }

    private static void undo() {
        HeldBlades x = new HeldBlades();
        x.blows(12, 1);
        x.ices(2);
        x.grids(0);
        x.wants(0);
        x.ticks(60);
        x.ticks(7);
        x.blows(13, 1);
        due("six are known", x.count(5), 6);
        due("undo()", x.undo(), 5);
        due("WIND undone", x.now(4), 12);
        due("undo()", x.undo(), 4);
        due("TICKS undone", x.count(0), 60);
        due("RECORD undone", x.count(1), 40);
        due("undo()", x.undo(), 3);
        due("TICKS undone", x.count(0), 0);
        due("RECORD undone", x.count(1), 0);
        due("AWAY undone", x.now(13), 0);
        due("undo()", x.undo(), 2);
        due("WANTED undone", x.now(10), 1);
        due("undo()", x.undo(), 1);
        due("GRID undone", x.now(9), 1);
        due("undo()", x.undo(), 0);
        due("ICE undone", x.now(8), 0);
        due("undo(), none", x.undo(), -2);
        due("WIND, lost", x.now(4), 12);
        x.sees(1, 2, 3);
        x.keep(0);
        x.type(32);
        due("what is no DONE isn't UNDONE", x.undo(), -2);
        x.ices(1);
        x.ices(3);
        x.undo();
        x.ices(4);
        due("two may be", x.count(5), 2);
        x.undo();
        due("ICE 1", x.now(8), 1);
        due("SEEN stays", x.count(3), 1);
        due("letters stay", x.count(4), 1);
        HeldBlades y = running(50);
        int speed = y.record(39);
        y.ticks(3);
        y.undo();
        due("the oldest of THE RECORD comes again", y.record(39), speed);
    }

    private static void now() {
        HeldBlades x = new HeldBlades();
        due("now(-1)", x.now(-1), -1000000);
        due("now(18)", x.now(18), -1000000);
        due("now(most)", x.now(Integer.MAX_VALUE), -1000000);
        x.blows(14, 31);
        x.ices(2);
        x.grids(0);
        x.wants(0);
        x.ticks(2);
        nowDue("two ticks", x, 0, 0, 90, 0, 14, 31, 0, 0, 2, 0, 0, 2, 0, 2, 2, 0, 0, 5);
    }

    private static void setting() {
        HeldBlades x = new HeldBlades();
        due("setting(-1)", x.setting(-1), -1);
        due("setting(6)", x.setting(6), -1);
        settingsDue("all", told("o33;l50;i5;r90;s8;t99;"), 90, 99, 5, 33, 50, 8);
    }

    private static void record() {
        HeldBlades x = running(11);
        due("record(-1)", x.record(-1), -1);
        due("record(least)", x.record(Integer.MIN_VALUE), -1);
        due("record(most)", x.record(Integer.MAX_VALUE), -9);
        due("record(0)", x.record(0), 7);
        due("record(1)", x.record(1), 5);
        due("record(5)", x.record(5), 1);
        due("record(10)", x.record(10), 0);
        due("record(11)", x.record(11), -9);
        x.ticks(34);
        due("count(1)", x.count(1), 40);
        due("record(39), the 6th tick", x.record(39), 1);
        due("record(34), the 11th tick", x.record(34), 7);
        due("record(40)", x.record(40), -9);
    }

    private static void gust() {
        HeldBlades x = new HeldBlades();
        due("gust(0)", x.gust(0), -1);
        due("gust(21)", x.gust(21), -1);
        due("gust(20), stopped", x.gust(20), 40);
        due("gust(20), tripped", tripped().gust(20), -9);
        due("gust(0), tripped", tripped().gust(0), -1);
        HeldBlades y = told("r40;t41;");
        y.blows(20, 0);
        for (int i = 0; i < 60 && y.now(1) <= 41; i++) {
            y.ticks(1);
        }
        due("it will trip with any wind", y.gust(1), -9);
        HeldBlades z = running(60);
        int before = z.now(1);
        due("gust(5)", z.gust(5), 26);
        due("gust(20)", z.gust(20), 20);
        due("nothing is changed", z.now(1), before);
        due("nothing is changed: TICKS", z.count(0), 60);
        due("nothing is changed: UNDONE", z.count(5), 2);
    }

    private static void dip() {
        HeldBlades x = new HeldBlades();
        due("dip(), stopped", x.dip(), -9);
        due("dip(), starting", running(10).dip(), -9);
        due("dip(), tripped", tripped().dip(), -9);
        due("dip(): the fourth stops it", running(60).dip(), 3);
        HeldBlades y = running(60);
        y.grids(0);
        y.ticks(2);
        due("dip(), away since 2", y.dip(), 1);
        y.ticks(1);
        due("dip(), away since 3", y.dip(), 0);
        HeldBlades z = running(60);
        z.wants(0);
        due("dip(), not wanted", z.dip(), -9);
        due("nothing is changed", z.now(0) == 4 ? 1 : 0, 0);
        due("nothing is changed: GRID", z.now(9), 1);
    }

    private static void rain() {
        HeldBlades x = new HeldBlades();
        due("halves(-1)", x.halves(-1), -1);
        due("halves(1000)", x.halves(1000), -1);
        due("rain(-1)", x.rain(-1), -1);
        due("rain(5)", x.rain(5), -1);
        rainDue("of nothing", x, 0, -9, 0, 0, 0);
        x.ticks(1);
        rainDue("of one", x, 0, -9, 0, 0, 1);
        x.ticks(30);
        rainDue("of one speed", x, 0, -9, 0, 0, 1);
        HeldBlades y = running(11);
        rainDue("of rising", y, 1, 7, 1, 0, 2);
        due("halves(7)", y.halves(7), 1);
        due("halves(0)", y.halves(0), 0);
        due("halves(999)", y.halves(999), 0);
        // 0 0 0 0 0 1 2 3 4 5 7, then down without wind by 1 each, then up again
        y.blows(0, 0);
        speedsDue("falling", y, 6, 5);
        rainDue("of 0 7 5", y, 2, 7, 2, 0, 3);
        y.blows(30, 0);
        // pitch 60, 57: drive 45 less 1 is 5 more, 50 less 2 is 6 more
        y.undo();
        y.blows(25, 0);
        y.ticks(1);
        int peak = y.now(1);
        due("it rises over 7", peak > 7 ? 1 : 0, 1);
        rainDue("of 0 7 5 and more", y, 2, peak, 3, 1, 4);
        due("halves(2), a CYCLE", y.halves(2), 2);
        due("halves(peak), a half", y.halves(peak), 1);
    }

    private static void rainDue(String when, HeldBlades x, int... wants) {
        for (int what = 0; what < wants.length; what++) {
            due("rain(" + what + ") " + when, x.rain(what), wants[what]);
        }
    }

    private static void seesAndForget() {
        HeldBlades x = new HeldBlades();
        due("sees(0, 0, 0)", x.sees(0, 0, 0), -1);
        due("sees(21, 0, 0)", x.sees(21, 0, 0), -1);
        due("sees(1, -1, 0)", x.sees(1, -1, 0), -1);
        due("sees(1, 41, 0)", x.sees(1, 41, 0), -1);
        due("sees(1, 0, -1)", x.sees(1, 0, -1), -1);
        due("sees(1, 0, 1000)", x.sees(1, 0, 1000), -1);
        due("forget(), nothing", x.forget(), 0);
        due("sees(1, 0, 999)", x.sees(1, 0, 999), 1);
        due("sees(20, 40, 0)", x.sees(20, 40, 0), 2);
        for (int i = 3; i <= 6; i++) {
            due("sees(1, 0, 0)", x.sees(1, 0, 0), i);
        }
        due("sees(1, 0, 0), full", x.sees(1, 0, 0), -3);
        due("sees(0, 0, 0), full", x.sees(0, 0, 0), -1);
        due("which()", x.which(), 0);
        due("forget()", x.forget(), 6);
        due("which() behind it", x.which(), 63);
        due("UNDONE", x.count(5), 0);
    }

    private static void whichAndAsk() {
        // SPEED 7, pitch 63, to 60 in the next tick: drive is wind * 9 * (10 - ice) * 30 by 1620, that is wind * (10 - ice) by 6
        HeldBlades x = running(11);
        due("which(), nothing SEEN", x.which(), 63);
        // wind 12: 20 18 16 14 12 10, less 1, by 8: 2 2 1 1 1 1
        x.sees(1, 12, 9);
        due("which(), 2 more", x.which(), 1 + 2);
        x.forget();
        x.sees(1, 12, 8);
        due("which(), 1 more", x.which(), 4 + 8 + 16 + 32);
        // wind 24: 40 36 32 28 24 20, less 1, by 8: 4 4 3 3 2 2
        x.sees(1, 24, 10);
        due("which(), both", x.which(), 4 + 8);
        x.ices(3);
        due("which(), ICE is unknown", x.which(), 4 + 8);
        x.sees(1, 24, 9);
        due("which(), none", x.which(), 0);
        due("ask(), none", x.ask(), -9);
        x.forget();
        due("nothing is changed", x.now(8), 3);
        due("ask(), all can be", x.ask(), 5);
        x.sees(1, 12, 8);
        x.sees(1, 24, 10);
        due("ask(), two can be", x.ask(), 4);
        HeldBlades still = new HeldBlades();
        still.wants(0);
        due("ask(), no wind tells", still.ask(), 0);
        HeldBlades one = running(11);
        for (int ice = 0; ice < 6; ice++) {
            one.ices(ice);
            one.keep(0);
            one.blows(40, 0);
            int speed = one.ticks(1);
            one.back(0);
            one.forget();
            one.sees(1, 40, speed);
            due("which() has ICE " + ice, one.which() >> ice & 1, 1);
        }
    }

    private static void images() {
        HeldBlades x = running(45);
        due("keep(-1)", x.keep(-1), -1);
        due("keep(2)", x.keep(2), -1);
        due("back(-1)", x.back(-1), -1);
        due("back(2)", x.back(2), -1);
        due("back(0), none", x.back(0), -2);
        due("UNDONE stays", x.count(5), 2);
        due("keep(0)", x.keep(0), 45);
        due("UNDONE stays behind keep", x.count(5), 2);
        int speed = x.now(1);
        int oldest = x.record(39);
        x.sees(4, 5, 6);
        x.type('r');
        x.ticks(30);
        x.blows(20, 9);
        x.ices(4);
        due("keep(1)", x.keep(1), 75);
        due("back(0)", x.back(0), 45);
        due("SPEED", x.now(1), speed);
        due("WIND", x.now(4), 12);
        due("ICE", x.now(8), 0);
        due("TICKS", x.count(0), 45);
        due("the oldest of THE RECORD", x.record(39), oldest);
        due("UNDONE", x.count(5), 0);
        due("undo()", x.undo(), -2);
        due("SEEN stays", x.count(3), 1);
        due("letters stay", x.count(4), 1);
        due("back(1)", x.back(1), 75);
        due("FROM", x.now(5), 9);
        due("ICE", x.now(8), 4);
        due("back(0) again", x.back(0), 45);
        x.ices(2);
        due("UNDONE, 1", x.count(5), 1);
        due("undo(), 1", x.undo(), 0);
        due("ICE undone", x.now(8), 0);
    }

    private static void count() {
        HeldBlades x = running(7);
        due("count(-1)", x.count(-1), -1);
        due("count(6)", x.count(6), -1);
        x.sees(1, 1, 1);
        typeAll(x, "abc");
        due("count(0)", x.count(0), 7);
        due("count(1)", x.count(1), 7);
        due("count(2)", x.count(2), 0);
        due("count(3)", x.count(3), 1);
        due("count(4)", x.count(4), 3);
        due("count(5)", x.count(5), 2);
        due("count(2), tripped", tripped().count(2), 1);
    }
}
