import java.util.ArrayList;
import java.util.List;
import java.util.Set;
import java.util.TreeSet;

/**
 * One run of calls on a new object, told in a short form: steps between commas, each a call with its numbers and, behind
 * "=" or "!=", the answer that is due: "blows 12 0, ticks 40, MODE = SLOW, gust 0 = BAD".
 *
 * <p>A step without an answer must not be refused. "ticks 60 x166" is done 166 times. "types 'r40;'" types each letter.
 * The words in capitals below stand for the calls and numbers that tell them.
 */
final class Run {
    /** What later calls answer is free. */
    private static final int MOST_CALLS = 512;

    private static final String[] NOW = {"MODE", "SPEED", "PITCH", "TORQUE", "WIND", "FROM", "HEADING", "TWIST", "ICE", "GRID",
        "WANTED", "GOOD", "STORM", "AWAY", "OFF", "UNWINDING", "DRIVE", "ERROR"};
    private static final String[] SETTING = {"RATED", "TRIP", "CUT-IN", "CUT-OUT", "LIMIT", "RATE"};
    private static final String[] COUNT = {"TICKS", "RECORDED", "TRIPS", "SEEN", "LETTERS", "UNDOABLE"};
    private static final String[] MODES = {"STOPPED", "STARTING", "SLOW", "FAST", "STOPPING", "TRIPPED"};

    private static final Set<String> QUESTIONS = Set.of("now", "setting", "record", "count", "rain", "gust", "dip", "which", "ask");

    private final HeldBlades held = new HeldBlades();
    private final List<String> wrong = new ArrayList<>();
    private int calls;

    Run(String steps) {
        go(steps);
    }

    void go(String steps) {
        for (String step : steps.split(",")) {
            if (!step.isBlank()) {
                step(step.trim());
            }
        }
    }

    /** What was not as due. */
    List<String> wrong() {
        return wrong;
    }

    private void step(String step) {
        if (step.startsWith("types '")) {
            for (char letter : step.substring(7, step.lastIndexOf('\'')).toCharArray()) {
                expect("type " + (int) letter, ask("type " + (int) letter), ">= 0");
            }
            return;
        }
        String[] halves = step.split("(?= !?= )");
        String call = halves[0].trim();
        String due = halves.length > 1 ? halves[1].trim() : ">= 0";
        int times = 1;
        if (call.matches(".* x[0-9]+")) {
            times = Integer.parseInt(call.substring(call.lastIndexOf('x') + 1));
            call = call.substring(0, call.lastIndexOf(" x"));
        }
        for (int time = 0; time < times; time++) {
            expect(call, ask(call), due);
        }
    }

    private void expect(String call, int got, String due) {
        boolean right;
        if (due.equals(">= 0")) {
            right = got >= 0;
        } else {
            right = got == number(due.substring(due.indexOf(' ') + 1)) == due.startsWith("= ");
        }
        if (!right) {
            wrong.add("call " + calls + ", " + call + ", answered " + got + ", due is " + due);
        }
    }

    private static int number(String word) {
        switch (word) {
            case "BAD": return -1;
            case "STATE": return -2;
            case "FULL": return -3;
            case "NONE": return -9;
            case "NO": return -1000000;
            default:
                int mode = place(MODES, word);
                return mode >= 0 ? mode : Integer.parseInt(word);
        }
    }

    private static int place(String[] words, String word) {
        for (int i = 0; i < words.length; i++) {
            if (words[i].equals(word)) {
                return i;
            }
        }
        return -1;
    }

    /** The answer of one call. */
    int ask(String call) {
        calls++;
        if (calls > MOST_CALLS) {
            throw new IllegalStateException("a run of more than 512 calls: " + call);
        }
        String[] words = call.split(" +");
        if (place(NOW, words[0]) >= 0) {
            return held.now(place(NOW, words[0]));
        }
        if (place(SETTING, words[0]) >= 0) {
            return held.setting(place(SETTING, words[0]));
        }
        if (place(COUNT, words[0]) >= 0) {
            return held.count(place(COUNT, words[0]));
        }
        int[] given = new int[words.length - 1];
        for (int i = 0; i < given.length; i++) {
            given[i] = Integer.parseInt(words[i + 1]);
        }
        return given.length == 0 ? plain(words[0]) : withNumbers(words[0], given);
    }

    private int plain(String name) {
        switch (name) {
            case "clear": return held.clear();
            case "tells": return held.tells();
            case "resets": return held.resets();
            case "undo": return held.undo();
            case "dip": return held.dip();
            case "forget": return held.forget();
            case "which": return held.which();
            case "ask": return held.ask();
            default: throw new IllegalArgumentException(name);
        }
    }

    private int withNumbers(String name, int[] given) {
        switch (name) {
            case "type": return held.type(given[0]);
            case "blows": return held.blows(given[0], given[1]);
            case "ices": return held.ices(given[0]);
            case "grids": return held.grids(given[0]);
            case "wants": return held.wants(given[0]);
            case "ticks": return held.ticks(given[0]);
            case "now": return held.now(given[0]);
            case "setting": return held.setting(given[0]);
            case "record": return held.record(given[0]);
            case "gust": return held.gust(given[0]);
            case "halves": return held.halves(given[0]);
            case "rain": return held.rain(given[0]);
            case "sees": return held.sees(given[0], given[1], given[2]);
            case "keep": return held.keep(given[0]);
            case "back": return held.back(given[0]);
            case "count": return held.count(given[0]);
            default: throw new IllegalArgumentException(name);
        }
    }

    /** The questions that the pictures below are made of, of those that are asked in these steps. */
    static Set<String> questions(String steps) {
        Set<String> asked = new TreeSet<>();
        for (String step : steps.split(",")) {
            String name = step.trim().split(" ")[0];
            asked.add(place(NOW, name) >= 0 ? "now" : place(SETTING, name) >= 0 ? "setting" : place(COUNT, name) >= 0 ? "count" : name);
        }
        asked.retainAll(QUESTIONS);
        return asked;
    }

    /** All of the document's part 2 that can be asked for, and what it would bear: nothing is changed by it. */
    List<String> presentPicture(Set<String> skipped) {
        List<String> picture = new ArrayList<>();
        look(picture, "", "now", 0, 17, skipped);
        look(picture, "", "record", 0, 40, skipped);
        look(picture, "", "count", 0, 2, skipped);
        look(picture, "", "rain", 0, 4, skipped);
        look(picture, "", "gust", 3, 3, skipped);
        look(picture, "dip", skipped);
        return picture;
    }

    /**
     * Everything that an object can be seen by, but for the questions that are skipped: one that changed something would
     * change it in each picture that it stands in. What can be UNDONE, IMAGES and THE TEXT are used up by looking. Each
     * line begins with what it is about, so that a test can leave it out.
     */
    List<String> wholePicture(Set<String> skipped) {
        List<String> picture = presentPicture(skipped);
        look(picture, "", "setting", 0, 5, skipped);
        look(picture, "", "count", 3, 5, skipped);
        look(picture, "which", skipped);
        look(picture, "ask", skipped);
        for (int i = 0; i < 7; i++) {
            picture.add("undone " + i + ": " + ask("undo"));
            shortPicture(picture, "undone " + i + " ", skipped);
        }
        for (int image = 0; image < 2; image++) {
            int ticks = ask("back " + image);
            picture.add("image " + image + ": " + ticks);
            if (ticks >= 0) {
                shortPicture(picture, "image " + image + " ", skipped);
            }
        }
        picture.add("text: " + ask("tells"));
        look(picture, "text ", "setting", 0, 5, skipped);
        picture.add("text: " + ask("clear"));
        return picture;
    }

    private void shortPicture(List<String> picture, String about, Set<String> skipped) {
        look(picture, about, "now", 0, 15, skipped);
        look(picture, about, "count", 0, 2, skipped);
        look(picture, about, "record", 0, 1, skipped);
        look(picture, about, "record", 39, 39, skipped);
    }

    private void look(List<String> picture, String about, String call, int first, int last, Set<String> skipped) {
        for (int what = first; what <= last && !skipped.contains(call); what++) {
            picture.add(about + call + " " + what + ": " + ask(call + " " + what));
        }
    }

    private void look(List<String> picture, String call, Set<String> skipped) {
        if (!skipped.contains(call)) {
            picture.add(call + ": " + ask(call));
        }
    }
}
