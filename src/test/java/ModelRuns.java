import java.util.ArrayDeque;
import java.util.ArrayList;
import java.util.Deque;
import java.util.HashMap;
import java.util.List;
import java.util.Map;
import java.util.Random;
import java.util.TreeMap;
import java.util.regex.Matcher;
import java.util.regex.Pattern;

/**
 * Long runs of mixed calls, each answer against a second writing of the document that shares nothing with the first:
 * it keeps whole copies, whole records and texts. The seeds are fixed, so every run is the same.
 */
public final class ModelRuns {
    private static final int MODE = 0, SPEED = 1, PITCH = 2, TORQUE = 3, WIND = 4, FROM = 5, HEADING = 6, TWIST = 7,
            ICE = 8, GRID = 9, WANTED = 10, GOOD = 11, STORM = 12, AWAY = 13, OFF = 14, UNWINDING = 15;

    /** All of part 2. */
    private static final class All {
        int[] v = new int[16];
        List<Integer> speeds = new ArrayList<>();
        int trips;

        All() {
            v[PITCH] = 90;
            v[GRID] = 1;
            v[WANTED] = 1;
        }

        All copy() {
            All other = new All();
            other.v = v.clone();
            other.speeds = new ArrayList<>(speeds);
            other.trips = trips;
            return other;
        }
    }

    private static final class Model {
        Map<Character, Integer> settings = first();
        String text = "";
        All all = new All();
        Deque<All> past = new ArrayDeque<>();
        All[] images = new All[2];
        List<int[]> seen = new ArrayList<>();

        static Map<Character, Integer> first() {
            Map<Character, Integer> m = new HashMap<>();
            m.put('r', 100);
            m.put('t', 130);
            m.put('i', 4);
            m.put('o', 30);
            m.put('l', 72);
            m.put('s', 3);
            return m;
        }

        int type(int letter) {
            if (letter < 0 || letter > 255) return -1;
            if (text.length() == 80) return -3;
            text += (char) letter;
            return text.length();
        }

        int clear() {
            int had = text.length();
            text = "";
            return had;
        }

        int tells() {
            Map<Character, Integer> told = new HashMap<>();
            Matcher m = Pattern.compile("[0-9]+|[^ ]", Pattern.DOTALL).matcher(text);
            int items = 0;
            String letter = null;
            boolean numbered = false;
            while (m.find()) {
                String token = m.group();
                int fault = -10 - m.start();
                if (letter == null) {
                    if (!token.matches("[rtiols]") || told.containsKey(token.charAt(0))) return fault;
                    if (token.equals("r") && told.containsKey('t')) return fault;
                    letter = token;
                } else if (!numbered) {
                    if (!token.matches("0|[1-9][0-9]{0,2}")) return fault;
                    int n = Integer.parseInt(token);
                    int least = 0;
                    int most = 0;
                    switch (letter) {
                        case "r" -> { least = 40; most = 120; }
                        case "t" -> { least = told.getOrDefault('r', 100) + 1; most = 200; }
                        case "i" -> { least = 1; most = 10; }
                        case "o" -> { least = 11; most = 40; }
                        case "l" -> { least = 36; most = 108; }
                        default -> { least = 1; most = 9; }
                    }
                    if (n > 255 || n < least || n > most) return fault;
                    told.put(letter.charAt(0), n);
                    numbered = true;
                } else {
                    if (!token.equals(";")) return fault;
                    items++;
                    letter = null;
                    numbered = false;
                }
            }
            if (letter != null) return -10 - text.length();
            settings = first();
            if (told.containsKey('r')) settings.put('t', told.get('r') + 30);
            settings.putAll(told);
            text = "";
            all = new All();
            past.clear();
            images = new All[2];
            seen.clear();
            return items;
        }

        void known() {
            past.push(all.copy());
            if (past.size() > 6) past.removeLast();
        }

        int blows(int wind, int from) {
            if (wind < 0 || wind > 40 || from < 0 || from > 35) return -1;
            if (all.v[WIND] == wind && all.v[FROM] == from) return -2;
            known();
            int was = all.v[WIND];
            all.v[WIND] = wind;
            all.v[FROM] = from;
            return was;
        }

        int put(int what, int is, int most, int answered) {
            if (is < 0 || is > most) return -1;
            if (all.v[what] == is) return -2;
            known();
            int answer = all.v[answered];
            all.v[what] = is;
            return answer;
        }

        int resets() {
            if (all.v[MODE] != 5 || all.v[SPEED] != 0) return -2;
            known();
            all.v[MODE] = 0;
            return all.v[HEADING];
        }

        int ticks(int n) {
            if (n < 1 || n > 60) return -1;
            if (all.speeds.size() + n > 9999) return -3;
            known();
            for (int i = 0; i < n; i++) tick(all);
            return all.v[SPEED];
        }

        boolean wound(All a) {
            return Math.abs(a.v[TWIST]) >= settings.get('l');
        }

        int error(All a) {
            int e = Math.abs(a.v[HEADING] - a.v[FROM]);
            return e > 18 ? 36 - e : e;
        }

        int drive(All a) {
            int e = 9 - error(a);
            if (e < 0) e = 0;
            return a.v[WIND] * e * (10 - a.v[ICE]) * (90 - a.v[PITCH]) / 1620;
        }

        void tick(All a) {
            int[] v = a.v;
            int r = settings.get('r'), t = settings.get('t'), i = settings.get('i'), o = settings.get('o');
            int l = settings.get('l'), s = settings.get('s');
            if (v[WIND] >= i && v[WIND] < o) v[GOOD]++; else v[GOOD] = 0;
            if (v[WIND] >= o) v[STORM]++; else v[STORM] = 0;
            if (v[GRID] == 0) v[AWAY]++; else v[AWAY] = 0;

            int m = v[MODE];
            int to = m;
            if (v[SPEED] > t && m >= 1 && m <= 4) to = 5;
            else if (m >= 1 && m <= 3 && (v[WANTED] == 0 || v[STORM] >= 2 || v[AWAY] >= 4 || wound(a))) to = 4;
            else if (m == 0 && v[WANTED] == 1 && v[GOOD] >= 3 && v[AWAY] == 0 && !wound(a) && v[UNWINDING] == 0) to = 1;
            else if (m == 1 && 5 * v[SPEED] >= 2 * r) to = 2;
            else if (m == 2 && v[SPEED] >= r) to = 3;
            else if (m == 3 && v[PITCH] == 0 && v[SPEED] < r - 5) to = 2;
            else if (m == 2 && v[WIND] < i && 5 * v[SPEED] < r) to = 4;
            else if (m == 4 && v[SPEED] == 0 && v[PITCH] == 90) to = 0;
            if (to == 5 && m != 5) a.trips++;
            v[MODE] = to;

            int aim = to == 1 ? 20 : to == 2 ? 0 : to == 3 ? v[PITCH] + (v[SPEED] - r) / 4 : 90;
            if (aim < 0) aim = 0;
            if (aim > 90) aim = 90;
            for (int k = 0; k < (to == 5 ? 2 * s : s); k++) v[PITCH] += Integer.signum(aim - v[PITCH]);

            int pull = to == 2 ? v[SPEED] / 2 : to == 3 ? r / 2 : 0;
            for (int k = 0; k < 10; k++) v[TORQUE] += Integer.signum(pull - v[TORQUE]);
            if (v[GRID] == 0) v[TORQUE] = 0;

            int error = error(a);
            int drag = v[SPEED] == 0 ? 0 : v[SPEED] / 10 + 1;
            v[SPEED] += (int) Math.floor((drive(a) - v[TORQUE] - drag) / 8.0);
            if (v[SPEED] < 0) v[SPEED] = 0;

            if (error > 2) v[OFF]++; else v[OFF] = 0;
            if (to == 0 && wound(a)) v[UNWINDING] = 1;
            if (v[TWIST] == 0 || to != 0) v[UNWINDING] = 0;
            int by = 0;
            if (v[UNWINDING] == 1) {
                by = -Integer.signum(v[TWIST]);
            } else if (to <= 3 && v[OFF] >= 3) {
                // up, if going up by ERROR comes to FROM
                by = (v[HEADING] + error) % 36 == v[FROM] ? 1 : -1;
                if (Math.abs(v[TWIST] + by) > l) by = 0;
            }
            v[TWIST] += by;
            v[HEADING] += by;
            if (v[HEADING] == 36) v[HEADING] = 0;
            if (v[HEADING] == -1) v[HEADING] = 35;
            a.speeds.add(v[SPEED]);
        }

        int undo() {
            if (past.isEmpty()) return -2;
            all = past.pop();
            return past.size();
        }

        int now(int what) {
            if (what < 0 || what > 17) return -1000000;
            return what == 16 ? drive(all) : what == 17 ? error(all) : all.v[what];
        }

        int setting(int what) {
            return what < 0 || what > 5 ? -1 : settings.get("rtiols".charAt(what));
        }

        List<Integer> last() {
            return all.speeds.subList(Math.max(0, all.speeds.size() - 40), all.speeds.size());
        }

        int record(int k) {
            if (k < 0) return -1;
            return k >= last().size() ? -9 : last().get(last().size() - 1 - k);
        }

        int gust(int n) {
            if (n < 1 || n > 20) return -1;
            int answer = -9;
            for (int wind = 0; wind <= 40 && all.v[MODE] != 5; wind++) {
                All a = all.copy();
                for (int k = 1; k <= 60; k++) {
                    a.v[WIND] = k <= n ? wind : all.v[WIND];
                    tick(a);
                }
                if (a.trips == all.trips) answer = wind;
            }
            return answer;
        }

        int dip() {
            int answer = -9;
            if (all.v[MODE] != 2 && all.v[MODE] != 3) return answer;
            for (int n = 0; n <= 20; n++) {
                All a = all.copy();
                boolean rides = true;
                for (int k = 1; k <= 60; k++) {
                    a.v[GRID] = k <= n ? 0 : 1;
                    tick(a);
                    rides &= a.v[MODE] != 4 && a.v[MODE] != 5;
                }
                if (rides) answer = n;
            }
            return answer;
        }

        /** Differences with their halves; cycles and turns into the second. */
        TreeMap<Integer, Integer> flow(int[] cyclesAndTurns) {
            List<Integer> unlike = new ArrayList<>();
            for (int speed : last()) {
                if (unlike.isEmpty() || unlike.get(unlike.size() - 1) != speed) unlike.add(speed);
            }
            List<Integer> turns = new ArrayList<>();
            for (int k = 0; k < unlike.size(); k++) {
                boolean end = k == 0 || k == unlike.size() - 1;
                if (end || unlike.get(k) > unlike.get(k - 1) != unlike.get(k + 1) > unlike.get(k)) turns.add(unlike.get(k));
            }
            TreeMap<Integer, Integer> halves = new TreeMap<>();
            List<Integer> row = new ArrayList<>();
            for (int turn : turns) {
                row.add(turn);
                while (row.size() >= 4) {
                    int e = row.size();
                    int ab = Math.abs(row.get(e - 4) - row.get(e - 3));
                    int bc = Math.abs(row.get(e - 3) - row.get(e - 2));
                    int cd = Math.abs(row.get(e - 2) - row.get(e - 1));
                    if (bc > ab || bc > cd) break;
                    row.remove(e - 2);
                    row.remove(e - 3);
                    halves.merge(bc, 2, Integer::sum);
                    cyclesAndTurns[0]++;
                }
            }
            for (int k = 1; k < row.size(); k++) halves.merge(Math.abs(row.get(k) - row.get(k - 1)), 1, Integer::sum);
            cyclesAndTurns[1] = turns.size();
            return halves;
        }

        int halves(int difference) {
            if (difference < 0 || difference > 999) return -1;
            return flow(new int[2]).getOrDefault(difference, 0);
        }

        int rain(int what) {
            if (what < 0 || what > 4) return -1;
            int[] counts = new int[2];
            TreeMap<Integer, Integer> halves = flow(counts);
            if (what == 0) return halves.size();
            if (what == 1) return halves.isEmpty() ? -9 : halves.lastKey();
            if (what == 2) return halves.values().stream().mapToInt(h -> h).sum();
            return counts[what - 3];
        }

        int sees(int n, int wind, int x) {
            if (n < 1 || n > 20 || wind < 0 || wind > 40 || x < 0 || x > 999) return -1;
            if (seen.size() == 6) return -3;
            seen.add(new int[] {n, wind, x});
            return seen.size();
        }

        int forget() {
            int was = seen.size();
            seen.clear();
            return was;
        }

        int speedBy(int ice, int n, int wind) {
            All a = all.copy();
            a.v[ICE] = ice;
            a.v[WIND] = wind;
            for (int k = 0; k < n; k++) tick(a);
            return a.v[SPEED];
        }

        int which() {
            int bits = 63;
            for (int[] one : seen) {
                for (int ice = 0; ice < 6; ice++) {
                    if (speedBy(ice, one[0], one[1]) != one[2]) bits &= ~(1 << ice);
                }
            }
            return bits;
        }

        int ask() {
            int bits = which();
            if (Integer.bitCount(bits) < 2) return -9;
            int answer = -9;
            int least = 99;
            for (int wind = 0; wind <= 40; wind++) {
                Map<Integer, Integer> groups = new HashMap<>();
                for (int ice = 0; ice < 6; ice++) {
                    if ((bits & 1 << ice) != 0) groups.merge(speedBy(ice, 10, wind), 1, Integer::sum);
                }
                int greatest = groups.values().stream().mapToInt(g -> g).max().orElse(0);
                if (greatest < least) {
                    least = greatest;
                    answer = wind;
                }
            }
            return answer;
        }

        int keep(int image) {
            if (image < 0 || image > 1) return -1;
            images[image] = all.copy();
            return all.speeds.size();
        }

        int back(int image) {
            if (image < 0 || image > 1) return -1;
            if (images[image] == null) return -2;
            all = images[image].copy();
            past.clear();
            return all.speeds.size();
        }

        int count(int what) {
            switch (what) {
                case 0: return all.speeds.size();
                case 1: return last().size();
                case 2: return all.trips;
                case 3: return seen.size();
                case 4: return text.length();
                case 5: return past.size();
                default: return -1;
            }
        }
    }

    /** So few that the last of them, and a look at the whole, still end ahead of 512. */
    private static final int MIXED_CALLS = 480;

    private static int wrong = 0;
    private static int run;
    /** How many calls the object of this run has had: what it answers behind the 512th is free. */
    private static int calls;
    private static final int[] MET = new int[17];
    private static final String[] MET_NAMES = {"stopped", "starting", "slow", "fast", "stopping", "tripped", "wound",
        "unwinding", "a reset", "twisted down", "storm", "away", "fast again slow", "a cycle", "ice told", "two halves more", "many turns"};

    private static void due(String call, int got, int want) {
        calls++;
        if (got != want && wrong++ < 40) {
            System.out.println("run " + run + ": " + call + " answered " + got + ", due is " + want);
        }
    }

    public static void main(String[] args) {
        for (run = 1; run <= 260; run++) {
            mixedRun(new Random(run));
        }
        for (run = 1001; run <= 1400; run++) {
            textRun(new Random(run));
        }
        for (run = 2001; run <= 2060; run++) {
            zigzagRun(new Random(run));
        }
        for (int i = 0; i < MET.length; i++) {
            if (MET[i] == 0) {
                wrong++;
                System.out.println("no run met: " + MET_NAMES[i]);
            }
        }
        System.out.println(wrong == 0 ? "all answers are as due" : wrong + " answers are not as due");
        if (wrong != 0) {
            System.exit(1);
        }
    }

    private static int wild(Random random, int most) {
        switch (random.nextInt(40)) {
            case 0: return -1;
            case 1: return most + 1;
            case 2: return random.nextInt();
            default: return random.nextInt(most + 1);
        }
    }

    private static int near(Random random, Model m) {
        return Math.floorMod(m.all.v[HEADING] + random.nextInt(7) - 3, 36);
    }

    private static void mixedRun(Random random) {
        HeldBlades x = new HeldBlades();
        Model m = new Model();
        calls = 0;
        if (random.nextInt(4) > 0) {
            tellGood(random, x, m);
        }
        boolean chased = random.nextInt(3) == 0;
        while (calls < MIXED_CALLS) {
            int before = m.all.v[MODE];
            oneCall(random, x, m, chased);
            met(m, before);
            if (random.nextInt(3) == 0) {
                int what = random.nextInt(18);
                due("now(" + what + ")", x.now(what), m.now(what));
            }
        }
        for (int what = 0; what < 18; what++) {
            due("now(" + what + ") at the end", x.now(what), m.now(what));
        }
        fewCalls();
    }

    private static void fewCalls() {
        if (calls > 512) {
            wrong++;
            System.out.println("run " + run + " has " + calls + " calls");
        }
    }

    private static void met(Model m, int before) {
        int[] v = m.all.v;
        MET[v[MODE]]++;
        if (m.wound(m.all)) MET[6]++;
        if (v[UNWINDING] == 1) MET[7]++;
        if (before == 5 && v[MODE] == 0) MET[8]++;
        if (v[TWIST] < 0) MET[9]++;
        if (v[STORM] > 1) MET[10]++;
        if (v[AWAY] > 3) MET[11]++;
        if (before == 3 && v[MODE] == 2) MET[12]++;
    }

    private static void tellGood(Random random, HeldBlades x, Model m) {
        String[] some = {"r" + (40 + random.nextInt(81)) + ";", "i" + (1 + random.nextInt(10)) + " ; ",
            "o " + (11 + random.nextInt(30)) + ";", " l" + (random.nextInt(2) == 0 ? 36 : 36 + random.nextInt(73)) + ";",
            "s" + (1 + random.nextInt(9)) + ";", "t" + (101 + random.nextInt(100)) + ";"};
        StringBuilder letters = new StringBuilder();
        for (String one : some) {
            if (random.nextBoolean()) {
                letters.append(one);
            }
        }
        for (char letter : letters.toString().toCharArray()) {
            due("type", x.type(letter), m.type(letter));
        }
        due("tells() of '" + letters + "'", x.tells(), m.tells());
        due("clear()", x.clear(), m.clear());
        for (int what = 0; what < 6; what++) {
            due("setting(" + what + ")", x.setting(what), m.setting(what));
        }
    }

    private static void oneCall(Random random, HeldBlades x, Model m, boolean chased) {
        int p = random.nextInt(100);
        if (p < 17) {
            int wind = random.nextInt(5) == 0 ? wild(random, 40) : 4 + random.nextInt(26);
            int from = chased ? Math.floorMod(m.all.v[HEADING] + 8, 36) : random.nextInt(4) == 0 ? wild(random, 35) : near(random, m);
            due("blows(" + wind + ", " + from + ")", x.blows(wind, from), m.blows(wind, from));
        } else if (p < 50) {
            int n = random.nextInt(3) == 0 ? wild(random, 60) : 1 + random.nextInt(8);
            due("ticks(" + n + ")", x.ticks(n), m.ticks(n));
        } else if (p < 53) {
            int ice = wild(random, 5);
            due("ices(" + ice + ")", x.ices(ice), m.put(ICE, ice, 5, ICE));
        } else if (p < 56) {
            int is = random.nextInt(4) == 0 ? wild(random, 1) : 1;
            due("grids(" + is + ")", x.grids(is), m.put(GRID, is, 1, MODE));
        } else if (p < 59) {
            int is = random.nextInt(6) == 0 ? wild(random, 1) : 1;
            due("wants(" + is + ")", x.wants(is), m.put(WANTED, is, 1, MODE));
        } else if (p < 62) {
            due("resets()", x.resets(), m.resets());
        } else if (p < 65) {
            due("undo()", x.undo(), m.undo());
        } else if (p < 74) {
            rainCall(random, x, m);
        } else if (p < 80) {
            askedCall(random, x, m);
        } else if (p < 87) {
            iceCall(random, x, m);
        } else if (p < 92) {
            int image = wild(random, 1);
            if (random.nextInt(3) == 0) {
                due("back(" + image + ")", x.back(image), m.back(image));
            } else {
                due("keep(" + image + ")", x.keep(image), m.keep(image));
            }
        } else {
            int what = wild(random, 5);
            due("count(" + what + ")", x.count(what), m.count(what));
            due("setting(" + what + ")", x.setting(what), m.setting(what));
            int k = wild(random, 41);
            due("record(" + k + ")", x.record(k), m.record(k));
        }
    }

    private static void rainCall(Random random, HeldBlades x, Model m) {
        int what = wild(random, 4);
        due("rain(" + what + ")", x.rain(what), m.rain(what));
        int[] counts = new int[2];
        TreeMap<Integer, Integer> halves = m.flow(counts);
        if (counts[0] > 0) MET[13]++;
        if (halves.values().stream().anyMatch(h -> h > 2)) MET[15]++;
        int difference = wild(random, 20);
        due("halves(" + difference + ")", x.halves(difference), m.halves(difference));
        if (!halves.isEmpty()) {
            difference = halves.lastKey();
            due("halves(" + difference + ")", x.halves(difference), m.halves(difference));
        }
    }

    private static void askedCall(Random random, HeldBlades x, Model m) {
        if (random.nextBoolean()) {
            int n = wild(random, 20);
            due("gust(" + n + ")", x.gust(n), m.gust(n));
        } else {
            due("dip()", x.dip(), m.dip());
        }
    }

    private static void iceCall(Random random, HeldBlades x, Model m) {
        int p = random.nextInt(10);
        if (p < 2) {
            due("forget()", x.forget(), m.forget());
        } else if (p < 6) {
            int n = wild(random, 20);
            int wind = wild(random, 40);
            boolean good = n > 0 && n <= 20 && wind >= 0 && wind <= 40;
            int speed = good && random.nextInt(8) > 0 ? m.speedBy(random.nextInt(6), n, wind) : wild(random, 999);
            due("sees(" + n + ", " + wind + ", " + speed + ")", x.sees(n, wind, speed), m.sees(n, wind, speed));
        }
        int bits = m.which();
        if (bits != 0 && bits != 63) MET[14]++;
        due("which()", x.which(), bits);
        due("ask()", x.ask(), m.ask());
    }

    /** Wind and calm by turns, so that most of THE RECORD are TURNS. */
    private static void zigzagRun(Random random) {
        HeldBlades x = new HeldBlades();
        Model m = new Model();
        calls = 0;
        tellGood(random, x, m);
        int wind = 5 + random.nextInt(20);
        due("blows(" + wind + ", 0)", x.blows(wind, 0), m.blows(wind, 0));
        int n = 10 + random.nextInt(40);
        due("ticks(" + n + ")", x.ticks(n), m.ticks(n));
        while (calls < MIXED_CALLS) {
            wind = m.all.v[WIND] > 4 ? random.nextInt(5) : 10 + random.nextInt(20);
            due("blows(" + wind + ", 0)", x.blows(wind, 0), m.blows(wind, 0));
            n = random.nextInt(8) == 0 ? 2 : 1;
            due("ticks(" + n + ")", x.ticks(n), m.ticks(n));
            if (random.nextInt(3) == 0) {
                rainCall(random, x, m);
            }
            if (m.rain(4) > 35) MET[16]++;
        }
        fewCalls();
    }

    private static void textRun(Random random) {
        HeldBlades x = new HeldBlades();
        Model m = new Model();
        String[] parts = {"r", "t", "i", "o", "l", "s", ";", ";", " ", "  ", "1", "9", "36", "40", "100", "101", "120", "200",
            "201", "255", "256", "0", "03", "7", "12", "x", "\t", "R", "99999999999", "-", (char) 0 + "", (char) 255 + ""};
        String[] wholes = {"r40;", "t101;", "t150 ;", "i 3;", "o40;", "l108;", " s9;", "r 120 ;", "i1;", "t200;"};
        calls = 0;
        for (int text = 0; text < 12 && calls < MIXED_CALLS - 80; text++) {
            StringBuilder letters = new StringBuilder();
            int length = random.nextInt(6);
            for (int i = 0; i < length; i++) {
                boolean whole = random.nextInt(4) > 0;
                letters.append(whole ? wholes[random.nextInt(wholes.length)] : parts[random.nextInt(parts.length)]);
            }
            for (char letter : letters.toString().toCharArray()) {
                due("type(" + (int) letter + ")", x.type(letter), m.type(letter));
            }
            due("tells() of '" + m.text + "'", x.tells(), m.tells());
            due("count(4)", x.count(4), m.count(4));
            for (int what = 0; what < 6; what++) {
                due("setting(" + what + ")", x.setting(what), m.setting(what));
            }
            if (random.nextInt(3) > 0) {
                due("clear()", x.clear(), m.clear());
            }
        }
        fewCalls();
    }
}
