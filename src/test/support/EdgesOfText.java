/** The edges of SETTINGS and THE TEXT, and of the calls that tell them: promises 2, 3, 4 and 13. */
final class EdgesOfText {
    private static final String T = "Terms";

    private EdgesOfText() {
    }

    static void test(Edges e) {
        settingsAtFirst(e);
        leastAndGreatest(e);
        tripByRated(e);
        eightyLetters(e);
        blanks(e);
        items(e);
        onceAtMost(e);
        tripBehindRated(e);
        tokens(e);
        faultOfTokenThatCannotStand(e);
        faultOfOtherLetters(e);
        faultOfNumbers(e);
        faultOfTooEarlyEnd(e);
        ratedWithoutTrip(e);
        textTold(e);
        type(e);
        clear(e);
        tells(e);
        setting(e);
    }

    private static String settings(int... values) {
        StringBuilder steps = new StringBuilder();
        for (int what = 0; what < values.length; what++) {
            steps.append(", setting ").append(what).append(" = ").append(values[what]);
        }
        return steps.toString();
    }

    private static String blanks(int n) {
        return " ".repeat(n);
    }

    private static void settingsAtFirst(Edges e) {
        e.of(T, "SETTINGS, as at first: RATED 100 (40 to 120), TRIP 130 (RATED and 1 to 200), CUT-IN 4 (1 to 10), CUT-OUT 30"
            + " (11 to 40), LIMIT 72 (36 to 108), RATE 3 (1 to 9).")
            .run("RATED = 100, TRIP = 130, CUT-IN = 4, CUT-OUT = 30, LIMIT = 72, RATE = 3");
    }

    private static void leastAndGreatest(Edges e) {
        within(e, "RATED 100 (40 to 120)", "r", 0, 40, 120);
        within(e, "CUT-IN 4 (1 to 10)", "i", 2, 1, 10);
        within(e, "CUT-OUT 30 (11 to 40)", "o", 3, 11, 40);
        within(e, "LIMIT 72 (36 to 108)", "l", 4, 36, 108);
        within(e, "RATE 3 (1 to 9)", "s", 5, 1, 9);
    }

    /** Every value from 0 to 255: told from the least to the greatest, a FAULT of the NUMBER else. */
    private static void within(Edges e, String sentence, String letter, int what, int least, int greatest) {
        e.of(T, sentence);
        String before = new String[] {"100", "130", "4", "30", "72", "3"}[what];
        for (int value = 0; value <= 255; value++) {
            String told = "types '" + letter + value + ";', tells = ";
            if (value >= least && value <= greatest) {
                e.run(told + "1, setting " + what + " = " + value + ", LETTERS = 0");
            } else {
                e.run(told + "-11, setting " + what + " = " + before + ", LETTERS = " + (2 + (value + "").length()));
            }
        }
    }

    private static void tripByRated(Edges e) {
        e.of(T, "TRIP 130 (RATED and 1 to 200)")
            .run("types 'r40;t40;', tells = -15" + settings(100, 130))
            .run("types 'r40;t41;', tells = 2" + settings(40, 41))
            .run("types 'r40;t200;', tells = 2" + settings(40, 200))
            .run("types 'r40;t201;', tells = -15" + settings(100, 130))
            .run("types 'r119;t119;', tells = -16")
            .run("types 'r119;t120;', tells = 2" + settings(119, 120))
            .run("types 'r120;t120;', tells = -16" + settings(100, 130))
            .run("types 'r120;t121;', tells = 2" + settings(120, 121))
            .run("types 'r120;t200;', tells = 2" + settings(120, 200))
            .run("types 'r120;t201;', tells = -16" + settings(100, 130))
            // what was RATED ahead of the text does not bind a t that stands without an r
            .run("types 'r120;', tells = 1, types 't101;', tells = 1" + settings(100, 101))
            .run("types 'r40;', tells = 1, types 't100;', tells = -11" + settings(40, 70));
    }

    private static void eightyLetters(Edges e) {
        e.of(T, "THE TEXT is told letter by letter (80 letters at most)")
            .run("type 32 x79, LETTERS = 79, type 32 = 80, type 32 = FULL, LETTERS = 80")
            .run("types '" + blanks(77) + "s9;', LETTERS = 80, tells = 1, RATE = 9, LETTERS = 0, type 32 = 1")
            .run("types 's9;" + blanks(77) + "', LETTERS = 80, tells = 1, RATE = 9")
            .run("types '" + blanks(78) + "s9', type 59 = FULL, tells = -90, RATE = 3")
            .run("types '" + blanks(79) + "x', tells = -89, LETTERS = 80");
    }

    private static void blanks(Edges e) {
        e.of(T, "blanks (32), any number, ahead of, between, behind TOKENS")
            .run("types 's9;i1;', tells = 2" + settings(100, 130, 1, 30, 72, 9))
            .run("types '  s9;i1;', tells = 2")
            .run("types 's  9;i1;', tells = 2")
            .run("types 's9  ;i1;', tells = 2")
            .run("types 's9;  i1;', tells = 2")
            .run("types 's9;i1;  ', tells = 2")
            .run("types '   s   9   ;   i   1   ;   ', tells = 2" + settings(100, 130, 1, 30, 72, 9));
        for (int letter : new int[] {0, 9, 10, 11, 12, 13, 31, 33, 95, 127, 128, 133, 160, 255}) {
            e.run("types 's9', type " + letter + ", type 59, tells = -12, RATE = 3");
        }
        e.of(T, "(needed only between two NUMBERS, which never stand side by side)")
            .run("types 'r120;t200;i10;o40;l108;s9;', tells = 6" + settings(120, 200, 10, 40, 108, 9))
            .run("types 'r120;', tells = 1, RATED = 120")
            .run("types 'r1 20;', tells = -11, RATED = 100")
            .run("types 'r 40 1;', tells = -15, RATED = 100")
            .run("types 's1 2;', tells = -13, RATE = 3");
    }

    private static void items(Edges e) {
        e.of(T, "ITEMS (none, too), each ended by ;")
            .run("tells = 0" + settings(100, 130, 4, 30, 72, 3))
            .run("types '     ', tells = 0, LETTERS = 0")
            .run("type 32 x80, tells = 0, LETTERS = 0")
            .run("types 's9', tells = -12, RATE = 3")
            .run("types 's9;', tells = 1, RATE = 9")
            .run("types ';', tells = -10")
            .run("types 's9;;', tells = -13, RATE = 3")
            .run("types 's9i1;', tells = -12, RATE = 3");
    }

    private static void onceAtMost(Edges e) {
        e.of(T, "r R (RATED) ; t T (TRIP) ; i I (CUT-IN) ; o O (CUT-OUT) ; l L (LIMIT) ; s S (RATE): each once at most")
            .run("types 'r50;t60;i5;o20;l40;s8;', tells = 6" + settings(50, 60, 5, 20, 40, 8))
            .run("types 's8;l40;o20;i5;r50;t60;', tells = 6" + settings(50, 60, 5, 20, 40, 8))
            .run("types 's8;l40;o20;i5;t110;', tells = 5" + settings(100, 110, 5, 20, 40, 8))
            .run("types 'r50;r50;', tells = -14" + settings(100, 130))
            .run("types 't150;t150;', tells = -15" + settings(100, 130))
            .run("types 'r50;t60;t60;', tells = -18" + settings(100, 130))
            .run("types 'i5;i5;', tells = -13, CUT-IN = 4")
            .run("types 'o20;o20;', tells = -14, CUT-OUT = 30")
            .run("types 'l40;l40;', tells = -14, LIMIT = 72")
            .run("types 's8;s8;', tells = -13, RATE = 3")
            .run("types 's8;i5; s', tells = -17, RATE = 3")
            // once in each text
            .run("types 's8;', tells = 1, types 's7;', tells = 1, RATE = 7");
    }

    private static void tripBehindRated(Edges e) {
        e.of(T, "t only behind r, or without any r (then 101 to 200; an r behind a t can't be)")
            .run("types 'r90;t91;', tells = 2" + settings(90, 91))
            .run("types 'r90;s4;i2;t91;', tells = 4" + settings(90, 91, 2, 30, 72, 4))
            .run("types 't100;', tells = -11, TRIP = 130")
            .run("types 't101;', tells = 1" + settings(100, 101))
            .run("types 't200;', tells = 1" + settings(100, 200))
            .run("types 't201;', tells = -11, TRIP = 130")
            .run("types 't110;r50;', tells = -15" + settings(100, 130))
            .run("types 't110;s9;i1;r', tells = -21" + settings(100, 130))
            // a t that would do for the r that follows is not enough
            .run("types 't91;r90;', tells = -11")
            .run("types 't101;r90;', tells = -15");
    }

    private static void tokens(Edges e) {
        e.of(T, "TOKENS are the letters r, t, i, o, l, s, NUMBERS (rows of figures) and ; .");
        for (int letter = 0; letter <= 255; letter++) {
            boolean tells = "rtiols".indexOf(letter) >= 0;
            boolean figure = letter >= '0' && letter <= '9';
            // as the first letter: alone it ends too early if it tells something
            e.run("type " + letter + ", tells = " + (letter == ' ' ? 0 : tells ? -11 : -10));
            // behind a letter: 0 is no RATE, the other figures are, and end too early
            e.run("types 's', type " + letter + ", tells = " + (letter == ' ' || figure && letter != '0' ? -12 : -11));
            // behind a NUMBER: a figure makes it another NUMBER, of 10 or more
            e.run("types 's1', type " + letter + ", tells = "
                + (letter == ';' ? 1 : letter == ' ' ? -13 : figure ? -11 : -12));
            // behind an ITEM: s is told already
            e.run("types 's1;', type " + letter + ", tells = "
                + (letter == ' ' ? 1 : tells && letter != 's' ? -14 : -13));
        }
    }

    private static void faultOfTokenThatCannotStand(Edges e) {
        e.of(T, "FAULT: the place of the first letter of the first TOKEN that can't stand there (a letter told again, an r"
            + " behind a t, a NUMBER beyond what it may be, too)")
            .run("types 'ss1;', tells = -11")
            .run("types '   ;', tells = -13")
            .run("types '12;', tells = -10")
            .run("types '  120;', tells = -12")
            .run("types 's1; 120;', tells = -14")
            .run("types 's ;', tells = -12")
            .run("types 's1 s;', tells = -13")
            .run("types 's1;  s1;', tells = -15")
            .run("types 't150; r50;', tells = -16")
            .run("types 'r  121 ;', tells = -13")
            .run("types 'r 121', tells = -12")
            .run("types 'r39;s1;', tells = -11")
            // the first of several
            .run("types 's1;s1;r1;', tells = -13")
            .run("types 's10;x', tells = -11")
            .run("types 's99x', tells = -11")
            .run("types '5x', tells = -10")
            .run("types '5 256', tells = -10")
            .run("types '; s', tells = -10")
            .run("types 's1;;x', tells = -13");
    }

    private static void faultOfOtherLetters(Edges e) {
        e.of(T, "of any other letter, a NUMBER above 255 or with a 0 ahead of others, that TOKEN's")
            .run("types 'x', tells = -10")
            .run("types '  x', tells = -12")
            .run("types 's1;x', tells = -13")
            .run("types 's1;  X1;', tells = -15")
            .run("types 'R50;', tells = -10")
            .run("types 's-1;', tells = -11")
            .run("types 's+1;', tells = -11")
            .run("types 's1.5;', tells = -12")
            .run("type 0, tells = -10, LETTERS = 1")
            .run("type 255, tells = -10, LETTERS = 1")
            .run("types 's1;', type 255, tells = -13")
            // 48 + 128 is no figure
            .run("types 's', type 177, type 59, tells = -11");
    }

    private static void faultOfNumbers(Edges e) {
        e.of(T, "a NUMBER above 255 or with a 0 ahead of others")
            .run("types 't255;', tells = -11")
            .run("types 't256;', tells = -11")
            .run("types 's01;', tells = -11, RATE = 3")
            .run("types 's001;', tells = -11, RATE = 3")
            .run("types 'r050;', tells = -11, RATED = 100")
            .run("types 'r0100;', tells = -11, RATED = 100")
            .run("types 't0150;', tells = -11, TRIP = 130")
            .run("types 'i010;', tells = -11, CUT-IN = 4")
            .run("types 'i 010;', tells = -12, CUT-IN = 4")
            .run("types 's00;', tells = -11")
            .run("types 's0;', tells = -11")
            .run("types 's 0 1;', tells = -12")
            // whatever a number of 8, 32 or 64 bits would make of it
            .run("types 's257;', tells = -11, RATE = 3")
            .run("types 's4294967297;', tells = -11, RATE = 3")
            .run("types 's18446744073709551617;', tells = -11, RATE = 3")
            .run("types 'r4294967346;', tells = -11, RATED = 100")
            .run("types 's1" + "0".repeat(78) + "', LETTERS = 80, tells = -11, LETTERS = 80")
            .run("types 's" + "9".repeat(79) + "', LETTERS = 80, tells = -11, LETTERS = 80")
            .run("types '" + "1".repeat(80) + "', LETTERS = 80, tells = -10, LETTERS = 80");
    }

    private static void faultOfTooEarlyEnd(Edges e) {
        e.of(T, "the text's length, if it ends too early")
            .run("types 's', tells = -11")
            .run("types 's    ', tells = -15")
            .run("types '  s', tells = -13")
            .run("types 's1', tells = -12")
            .run("types 's1   ', tells = -15")
            .run("types 'r120', tells = -14")
            .run("types 's1;i', tells = -14")
            .run("types 's1;i2  ', tells = -17")
            .run("types 's" + blanks(79) + "', tells = -90")
            .run("types '" + blanks(79) + "s', tells = -90")
            .run("types 's1;" + blanks(75) + "i1', tells = -90")
            // what is missing can still be typed
            .run("types 's1', tells = -12, type 59 = 3, tells = 1, RATE = 1");
    }

    private static void ratedWithoutTrip(Edges e) {
        e.of(T, "(RATED told without t: TRIP is RATED and 30.)")
            .run("types 'r40;', tells = 1" + settings(40, 70, 4, 30, 72, 3))
            .run("types 'r120;', tells = 1" + settings(120, 150, 4, 30, 72, 3))
            .run("types 'r99;s1;', tells = 2" + settings(99, 129, 4, 30, 72, 1))
            .run("types 'r40;t41;', tells = 2" + settings(40, 41))
            .run("types 's1;', tells = 1" + settings(100, 130))
            .run("tells = 0" + settings(100, 130))
            // TRIP is what the text makes it, whatever it was
            .run("types 'r40;t199;', tells = 2, types 'r50;', tells = 1" + settings(50, 80));
    }

    private static void textTold(Edges e) {
        e.of(T, "(A text told: SETTINGS, what it does not tell as at first; all of 2 as at first, what was SEEN, IMAGES are gone,"
            + " nothing can be UNDONE.)")
            .run("types 'r50;t60;i5;o20;l40;s8;', tells = 6, types 's7;', tells = 1" + settings(100, 130, 4, 30, 72, 7))
            .run("types 'r50;t60;i5;o20;l40;s8;', tells = 6, tells = 0" + settings(100, 130, 4, 30, 72, 3))
            .wholeAlike(EdgesOfCalls.FURNISHED + ", clear, tells = 0", "")
            .wholeAlike(EdgesOfCalls.FULL_OF_ALL + ", clear, tells = 0", "")
            .wholeAlike(EdgesOfCalls.TRIPPED_AT_REST + ", tells = 0", "")
            .wholeAlike(EdgesOfCalls.UNWINDING + ", tells = 0", "")
            .wholeAlike("blows 14 0, ticks 60, MODE = FAST, TORQUE = 50, tells = 0", "")
            .wholeAlike("blows 12 5, ticks 40, MODE = SLOW, TWIST = 3, blows 35 8, ticks 1, STORM = 1, OFF = 1, tells = 0", "")
            .wholeAlike(EdgesOfCalls.FURNISHED + ", clear, types 'r60;l40;', tells = 2", "types 'r60;l40;', tells = 2")
            .run("ices 1, ices 2, tells = 0, UNDOABLE = 0, undo = STATE, ICE = 0, ices 3, UNDOABLE = 1, undo = 0, ICE = 0")
            .run("ices 1, keep 0, keep 1, tells = 0, back 0 = STATE, back 1 = STATE, ICE = 0, keep 1, back 1 = 0, back 0 = STATE")
            .run("sees 1 0 9, SEEN = 1, tells = 0, SEEN = 0, which = 63, forget = 0");
    }

    private static void type(Edges e) {
        e.of("Promise 2", "A letter (0 .. 255) comes to THE TEXT: how many it has. BAD; FULL: 80.")
            .run("type 0 = 1, type 255 = 2, LETTERS = 2")
            .run("type -1 = BAD, type 256 = BAD, type -2147483648 = BAD, type 2147483647 = BAD, LETTERS = 0")
            .run("type 32 x79, type 0 = 80, type 0 = FULL, type 255 = FULL, LETTERS = 80")
            // BAD is told ahead of FULL
            .run("type 32 x80, type -1 = BAD, type 256 = BAD, LETTERS = 80")
            .run("type 32 x80, type 32 = FULL, clear = 80, type 32 = 1")
            .leavesAll(EdgesOfCalls.FURNISHED, "type -1 = BAD, type 256 = BAD")
            .leavesAll("types 's9;" + blanks(77) + "'", "type 120 = FULL, type 300 = BAD");
    }

    private static void clear(Edges e) {
        e.of("Promise 3", "THE TEXT is empty: how many letters it had.")
            .run("clear = 0, LETTERS = 0")
            .run("type 120 = 1, clear = 1, LETTERS = 0, clear = 0")
            .run("type 120 x80, clear = 80, LETTERS = 0, type 115 = 1, types '9;', tells = 1, RATE = 9")
            .run("types 's9;', clear = 3, tells = 0, RATE = 3")
            // what was there ahead of it does not come again
            .run("types 's9;i1;', clear = 6, types 's8;', tells = 1, RATE = 8, CUT-IN = 4")
            .wholeAlike("blows 12 0, ticks 30, keep 0, sees 1 2 3, types 'r50;', clear = 4",
                "blows 12 0, ticks 30, keep 0, sees 1 2 3");
    }

    private static void tells(Edges e) {
        e.of("Promise 4", "THE TEXT tells SETTINGS, and is empty then: how many ITEMS.")
            .run("types 's9;', tells = 1, LETTERS = 0, tells = 0, RATE = 3")
            .run("types 'r120;t200;i10;o40;l108;s9;', tells = 6, LETTERS = 0, clear = 0");
        e.of("Promise 4", "-10 less FAULT: nothing changes (THE TEXT stays, too).")
            .run("types 'x', tells = -10, LETTERS = 1, tells = -10")
            .run("types 's1;x', tells = -13, LETTERS = 4, RATE = 3, clear = 4, tells = 0")
            .leavesAll(EdgesOfCalls.FURNISHED + ", clear, types 'r50;s9;x'", "tells = -17")
            .leavesAll(EdgesOfCalls.FURNISHED + ", clear, types 'r50;s'", "tells = -15")
            .leavesAll(EdgesOfCalls.FURNISHED + ", clear, types 'r50;t50;'", "tells = -15")
            .leavesAll("types 'r50;t60;i5;o20;l40;s8;', tells = 6, blows 9 9, types 'r60;i6;o30;l50;s7;t60;'", "tells = -29")
            .leavesAll(EdgesOfCalls.TRIPPED_AT_REST + ", types ';'", "tells = -10");
    }

    private static void setting(Edges e) {
        e.of("Promise 13", "SETTINGS: 0 RATED, 1 TRIP, 2 CUT-IN, 3 CUT-OUT, 4 LIMIT, 5 RATE. BAD.")
            .run("setting -1 = BAD, setting 6 = BAD, setting -2147483648 = BAD, setting 2147483647 = BAD")
            .run("types 'r50;t60;i5;o20;l40;s8;', tells = 6" + settings(50, 60, 5, 20, 40, 8))
            .leavesAll(EdgesOfCalls.FURNISHED, "setting 0 = 100, setting 5 = 3, setting 6 = BAD, setting -1 = BAD");
    }
}
