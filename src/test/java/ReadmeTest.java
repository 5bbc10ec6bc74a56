import java.lang.reflect.Method;
import java.lang.reflect.Modifier;
import java.nio.file.Files;
import java.nio.file.Path;
import java.util.List;
import java.util.regex.Matcher;
import java.util.regex.Pattern;

/** README.md tells the truth: its calls answer what it says, and each call of the face, and each constant, is told of. */
public final class ReadmeTest {
    private static final Path README = Path.of("README.md");
    private static final Pattern CALL = Pattern.compile("x\\.(\\w+)\\(([^)]*)\\); +// (-?[0-9]+)(:.*)?");
    private static int wrong = 0;

    private ReadmeTest() {
    }

    public static void main(String[] args) throws Exception {
        examples(Files.readAllLines(README));
        wholeFace(Files.readString(README));
        System.out.println(wrong == 0 ? "README.md is as due" : wrong + " faults");
        if (wrong != 0) {
            System.exit(1);
        }
    }

    private static void fault(String what) {
        wrong++;
        System.out.println("README.md: " + what);
    }

    private static void examples(List<String> lines) throws Exception {
        HeldBlades x = null;
        boolean inside = false;
        int made = 0;
        for (String line : lines) {
            if (line.startsWith("```")) {
                inside = line.equals("```java");
            } else if (inside && line.equals("HeldBlades x = new HeldBlades();")) {
                x = new HeldBlades();
            } else if (inside) {
                example(x, line);
                made++;
            }
        }
        if (made == 0) {
            fault("there is no example");
        }
    }

    private static void example(HeldBlades x, String line) throws Exception {
        Matcher call = CALL.matcher(line);
        if (x == null || !call.matches()) {
            fault("no call with its answer: " + line);
            return;
        }
        int got = answer(x, call.group(1), call.group(2).isEmpty() ? new String[0] : call.group(2).split(", *"));
        if (got != Integer.parseInt(call.group(3))) {
            fault(line + " answered " + got);
        }
    }

    private static int answer(HeldBlades x, String name, String[] numbers) throws Exception {
        Class<?>[] types = new Class<?>[numbers.length];
        Object[] given = new Object[numbers.length];
        for (int i = 0; i < numbers.length; i++) {
            types[i] = int.class;
            given[i] = numbers[i].startsWith("'") ? (int) numbers[i].charAt(1) : Integer.parseInt(numbers[i]);
        }
        return (int) HeldBlades.class.getMethod(name, types).invoke(x, given);
    }

    private static void wholeFace(String text) {
        for (Method method : HeldBlades.class.getDeclaredMethods()) {
            String row = "| `" + method.getName() + "(";
            if (Modifier.isPublic(method.getModifiers()) && !text.contains(row)) {
                fault("no row begins " + row);
            }
        }
        told(text, "BAD", HeldBlades.BAD);
        told(text, "STATE", HeldBlades.STATE);
        told(text, "FULL", HeldBlades.FULL);
        told(text, "NONE", HeldBlades.NONE);
        told(text, "NO", HeldBlades.NO);
    }

    private static void told(String text, String constant, int value) {
        String words = "`" + constant + "` (" + value + ")";
        if (!text.contains(words)) {
            fault("there is no " + words);
        }
    }
}
