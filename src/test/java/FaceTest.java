import java.io.IOException;
import java.lang.reflect.Constructor;
import java.lang.reflect.Field;
import java.lang.reflect.Method;
import java.lang.reflect.Modifier;
import java.nio.file.Files;
import java.nio.file.Path;
import java.util.Random;
import java.util.Set;
import java.util.TreeSet;

/** The class's face, the rules of LANGUAGE.md that can be seen in it, and that no argument makes any call throw. */
public final class FaceTest {
    private static final Set<String> METHODS = Set.of("type1", "clear0", "tells0", "blows2", "ices1", "grids1", "wants1",
        "resets0", "ticks1", "undo0", "now1", "setting1", "record1", "gust1", "dip0", "halves1", "rain1", "sees3", "forget0",
        "which0", "ask0", "keep1", "back1", "count1");
    private static final Set<String> CONSTANTS = Set.of("BAD", "STATE", "FULL", "NONE", "NO");
    private static int wrong = 0;

    private static void fault(String what) {
        wrong++;
        System.out.println(what);
    }

    public static void main(String[] args) throws Exception {
        face();
        source();
        for (int seed = 0; seed < 200; seed++) {
            wildCalls(new Random(seed));
        }
        System.out.println(wrong == 0 ? "the face is as due" : wrong + " faults");
        if (wrong != 0) {
            System.exit(1);
        }
    }

    private static void face() {
        Class<HeldBlades> c = HeldBlades.class;
        if (c.getModifiers() != (Modifier.PUBLIC | Modifier.FINAL)) fault("the class is not public and final alone");
        Set<String> methods = new TreeSet<>();
        for (Method m : c.getDeclaredMethods()) {
            if (Modifier.isPrivate(m.getModifiers())) {
                if (isNameOfCall(m.getName())) fault("private " + m.getName());
                if (m.getParameterCount() > 7) fault("too many parameters: " + m);
                continue;
            }
            if (m.getModifiers() != Modifier.PUBLIC || m.getReturnType() != int.class) fault("not a public int: " + m);
            for (Class<?> type : m.getParameterTypes()) {
                if (type != int.class) fault("not of ints: " + m);
            }
            methods.add(m.getName() + m.getParameterCount());
        }
        if (!methods.equals(METHODS)) fault("methods are " + methods);
        Set<String> constants = new TreeSet<>();
        for (Field f : c.getDeclaredFields()) {
            if (!Modifier.isPrivate(f.getModifiers())) {
                constants.add(f.getName());
                if (f.getType() != int.class) fault("not an int: " + f);
                if (f.getModifiers() != (Modifier.PUBLIC | Modifier.STATIC | Modifier.FINAL)) fault("no constant: " + f);
            }
        }
        if (!constants.equals(CONSTANTS)) fault("constants are " + constants);
        Constructor<?>[] made = c.getDeclaredConstructors();
        if (made.length != 1 || made[0].getParameterCount() != 0 || !Modifier.isPublic(made[0].getModifiers())) {
            fault("constructors");
        }
        if (c.getDeclaredClasses().length > 11) fault("too many classes");
        for (Class<?> inside : c.getDeclaredClasses()) {
            if (!Modifier.isStatic(inside.getModifiers())) fault("not static: " + inside);
            if (inside.getDeclaredFields().length > 20) fault("too many fields: " + inside);
            inside(inside);
        }
    }

    private static void inside(Class<?> inside) {
        for (Method m : inside.getDeclaredMethods()) {
            if (isNameOfCall(m.getName())) fault("bears the name of a call: " + m);
            if (m.getParameterCount() > 7) fault("too many parameters: " + m);
        }
    }

    private static boolean isNameOfCall(String name) {
        for (String call : METHODS) {
            if (call.substring(0, call.length() - 1).equals(name)) return true;
        }
        return false;
    }

    private static void source() throws IOException {
        String text = Files.readString(Path.of("src/main/java/HeldBlades.java"));
        String code = text.replaceAll("(?s)/\\*.*?\\*/", " ").replaceAll("//[^\n]*", " ");
        String[] forbidden = {"throw", "throws", "try", "catch", "finally", "synchronized", "assert", "import", "package",
            "protected", "var", "double", "float", "native", "System\\.(?!arraycopy)"};
        for (String word : forbidden) {
            if (code.matches("(?s).*\\b" + word + (word.endsWith(")") ? ".*" : "\\b.*"))) fault("the source has " + word);
        }
        methodsAreShort(text.split("\n"));
        for (String sign : new String[] {"->", "::", "Exact(", "static {"}) {
            if (code.contains(sign)) fault("the source has " + sign);
        }
    }

    /** A method's body begins behind 4 or 8 blanks, and ends at a brace behind as many. */
    private static void methodsAreShort(String[] lines) {
        int begun = -1;
        String indent = "";
        for (int i = 0; i < lines.length; i++) {
            if (begun < 0 && lines[i].matches(" {4}( {4})?(public|private) [^=;]*\\) \\{")) {
                begun = i;
                indent = lines[i].substring(0, lines[i].indexOf('p'));
            } else if (begun >= 0 && lines[i].equals(indent + "}")) {
                if (i - begun > 60) fault("too long: " + lines[begun].trim());
                begun = -1;
            }
        }
    }

    private static int any(Random random) {
        switch (random.nextInt(6)) {
            case 0: return random.nextInt();
            case 1: return random.nextBoolean() ? Integer.MIN_VALUE : Integer.MAX_VALUE;
            case 2: return random.nextInt(1200) - 100;
            default: return random.nextInt(64) - 2;
        }
    }

    private static void wildCalls(Random random) throws Exception {
        HeldBlades x = new HeldBlades();
        Method[] methods = HeldBlades.class.getMethods();
        for (int call = 0; call < 512; call++) {
            Method m = methods[random.nextInt(methods.length)];
            if (m.getDeclaringClass() != HeldBlades.class) {
                continue;
            }
            Object[] given = new Object[m.getParameterCount()];
            for (int i = 0; i < given.length; i++) {
                given[i] = any(random);
            }
            try {
                m.invoke(x, given);
            } catch (java.lang.reflect.InvocationTargetException e) {
                fault(m.getName() + " threw " + e.getCause());
            }
        }
    }
}
