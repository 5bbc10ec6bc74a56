import java.io.IOException;
import java.nio.file.Files;
import java.nio.file.Path;
import java.util.ArrayList;
import java.util.HashSet;
import java.util.LinkedHashMap;
import java.util.List;
import java.util.Map;
import java.util.Set;
import java.util.regex.Matcher;
import java.util.regex.Pattern;

/**
 * Tests of edges, each under the words of the document that name the edge. The words are looked for in the document, so
 * that a test is found from a sentence and a sentence from a test; and each number that the document tells must stand in
 * words that have a test.
 */
final class Edges {
    private static final Path DOCUMENT = Path.of("../shared/DOC.md");

    /** The document's sections, by what their headings begin with, each letter with whether a test's words have it. */
    private final Map<String, String> sections = new LinkedHashMap<>();
    private final Map<String, boolean[]> quoted = new LinkedHashMap<>();
    private String place = "";
    private String words = "";
    private final Set<String> sentences = new HashSet<>();
    private int runs;
    private int wrong;

    Edges() throws IOException {
        if (!Files.isReadable(DOCUMENT)) {
            System.out.println("there is no " + DOCUMENT + ": the words are not looked for");
            return;
        }
        String heading = "";
        StringBuilder text = new StringBuilder();
        for (String line : Files.readAllLines(DOCUMENT)) {
            if (line.startsWith("## ")) {
                addSection(heading, text.toString());
                heading = line.substring(3).replaceAll(":.*", "");
                text.setLength(0);
            } else {
                text.append(line).append(' ');
            }
        }
        addSection(heading, text.toString());
    }

    private void addSection(String heading, String text) {
        String plain = text.replaceAll("\\s+", " ");
        sections.put(heading, plain);
        quoted.put(heading, new boolean[plain.length()]);
    }

    /** The words, in that section, that the tests which follow are about. */
    Edges of(String section, String sentence) {
        place = section;
        words = sentence;
        sentences.add(section + sentence);
        if (sections.isEmpty()) {
            return this;
        }
        String text = sections.getOrDefault(section, "");
        int from = text.indexOf(sentence);
        if (from < 0) {
            fault("these words are not in the document");
        }
        for (; from >= 0; from = text.indexOf(sentence, from + 1)) {
            for (int i = from; i < from + sentence.length(); i++) {
                quoted.get(section)[i] = true;
            }
        }
        return this;
    }

    /** A run of calls, with the answers that are due. */
    Edges run(String steps) {
        ran(steps);
        return this;
    }

    /** An answer that was worked out by several runs. */
    Edges due(String what, int got, int want) {
        if (got != want) {
            fault(what + " is " + got + ", due is " + want);
        }
        return this;
    }

    /** A call that is refused, or asks for something alone, leaves everything as it was. */
    Edges leavesAll(String made, String call) {
        String steps = made + ", " + call;
        Set<String> asked = Run.questions(call);
        if (!asked.isEmpty()) {
            alike(ran(steps).wholePicture(asked), ran(made).wholePicture(asked), steps, made);
        }
        return wholeAlike(steps, made);
    }

    /** A call leaves everything as it was, but for the lines of the picture that begin like one of these. */
    Edges leavesAllBut(String made, String call, String... changed) {
        String steps = made + ", " + call;
        return alike(without(changed, ran(steps)), without(changed, ran(made)), steps, made);
    }

    private static List<String> without(String[] changed, Run run) {
        List<String> picture = run.wholePicture(Set.of());
        for (String beginning : changed) {
            picture.removeIf(line -> line.startsWith(beginning));
        }
        return picture;
    }

    /** Behind both runs everything that an object can be seen by is alike. */
    Edges wholeAlike(String steps, String others) {
        return alike(ran(steps).wholePicture(Set.of()), ran(others).wholePicture(Set.of()), steps, others);
    }

    /** Behind both runs all that the document's part 2 tells is alike. */
    Edges presentAlike(String steps, String others) {
        return alike(ran(steps).presentPicture(Set.of()), ran(others).presentPicture(Set.of()), steps, others);
    }

    /** A run, for what is asked of it then. */
    Run ran(String steps) {
        runs++;
        Run run = new Run(steps);
        if (!run.wrong().isEmpty()) {
            fault(run.wrong().get(0) + ", in: " + steps);
        }
        return run;
    }

    private Edges alike(List<String> got, List<String> due, String steps, String others) {
        for (int i = 0; i < Math.max(got.size(), due.size()); i++) {
            String seen = i < got.size() ? got.get(i) : "nothing";
            String line = i < due.size() ? due.get(i) : "nothing";
            if (!seen.equals(line)) {
                fault("seen is " + seen + ", due is " + line + ", behind: " + steps + " / " + others);
                return this;
            }
        }
        return this;
    }

    private void fault(String what) {
        wrong++;
        if (wrong <= 60) {
            System.out.println(place + ", \"" + words + "\": " + what);
        }
    }

    /** How many faults there were, those of what has no test among them. */
    int end() {
        for (String section : sections.keySet()) {
            if (section.equals("Terms") || section.startsWith("Promise ")) {
                untested(section);
            }
        }
        System.out.println(sentences.size() + " sentences, " + runs + " runs: "
            + (wrong == 0 ? "all answers are as due" : wrong + " faults"));
        return wrong;
    }

    private void untested(String section) {
        List<String> left = new ArrayList<>();
        Matcher number = Pattern.compile("[0-9]+|BAD|STATE|FULL|NONE").matcher(sections.get(section));
        while (number.find()) {
            if (!quoted.get(section)[number.start()]) {
                String text = sections.get(section);
                left.add(text.substring(Math.max(0, number.start() - 20), Math.min(text.length(), number.end() + 20)));
            }
        }
        if (!left.isEmpty()) {
            place = section;
            words = "";
            fault("no test is about " + left);
        }
    }
}
