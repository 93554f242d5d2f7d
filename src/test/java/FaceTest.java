import java.io.IOException;
import java.lang.reflect.Constructor;
import java.lang.reflect.Field;
import java.lang.reflect.Method;
import java.lang.reflect.Modifier;
import java.nio.file.Files;
import java.nio.file.Path;
import java.util.ArrayList;
import java.util.Arrays;
import java.util.List;
import java.util.TreeSet;
import java.util.regex.Matcher;
import java.util.regex.Pattern;

/** The face of the class is the document's, and its source keeps clear of what the rules forbid. */
public final class FaceTest {
    private static final String I = "IndexOutOfBoundsException";
    private static final String A = "IllegalArgumentException";
    private static final String S = "IllegalStateException";
    private static final String U = "UnsupportedOperationException";
    private static final List<String> FACE = List.of(
            "int tile 4 " + A + " " + S + " " + U,
            "int byteOf 2 " + I + " " + A + " " + U,
            "int note 3 " + I + " " + A + " " + U,
            "int crop 4 " + A,
            "int near 1 " + I + " " + S,
            "int turn 1 " + A,
            "int swap 0",
            "int join 1 " + I + " " + S + " " + U,
            "int at 2 " + I,
            "int byteAt 2 " + I,
            "int shown 2 " + I,
            "int noteAt 2 " + I,
            "int write 0",
            "int streamAt 1 " + I,
            "int pointer 1 " + I,
            "int told 1",
            "void clear 0");
    private static final Path SOURCE = Path.of("src/main/java/LossFreeTools.java");
    private static final int CLASSES_MAX = 12;
    private static final int FIELDS_MAX = 20;
    private static final int PARAMETERS_MAX = 7;
    private static final int LINES_MAX = 60;
    private static final Check check = new Check();

    public static void main(String[] args) throws IOException {
        methods();
        otherMembers();
        source();
        thrown();
        sizes();
        methodLengths();
        check.end();
    }

    private static void methods() {
        TreeSet<String> found = new TreeSet<>();
        TreeSet<String> names = new TreeSet<>();
        for (Method m : LossFreeTools.class.getDeclaredMethods()) {
            if (!Modifier.isPrivate(m.getModifiers())) {
                found.add(described(m));
                names.add(m.getName());
            }
        }
        check.due("methods", found.toString(), new TreeSet<>(FACE).toString());
        for (Method m : LossFreeTools.class.getDeclaredMethods()) {
            if (Modifier.isPrivate(m.getModifiers())) {
                check.due("private " + m.getName(), String.valueOf(names.contains(m.getName())), "false");
            } else {
                check.due(m.getName(), Modifier.toString(m.getModifiers()), "public");
                check.due(m.getName() + " takes ints", String.valueOf(Arrays.stream(m.getParameterTypes())
                        .allMatch(t -> t == int.class)), "true");
            }
        }
    }

    private static String described(Method m) {
        StringBuilder s = new StringBuilder();
        s.append(m.getReturnType().getSimpleName()).append(' ').append(m.getName());
        s.append(' ').append(m.getParameterCount());
        for (Class<?> e : m.getExceptionTypes()) {
            s.append(' ').append(e.getSimpleName());
        }
        return s.toString();
    }

    private static void otherMembers() {
        check.due("the class", Modifier.toString(LossFreeTools.class.getModifiers()), "public final");
        for (Field f : LossFreeTools.class.getDeclaredFields()) {
            boolean ours = f.getName().equals("NONE");
            check.due(f.getName() + " is public", String.valueOf(Modifier.isPublic(f.getModifiers())),
                    String.valueOf(ours));
            check.due(f.getName() + " is private", String.valueOf(Modifier.isPrivate(f.getModifiers())),
                    String.valueOf(!ours));
            check.due(f.getName() + " is no static state", String.valueOf(
                    Modifier.isStatic(f.getModifiers()) && !Modifier.isFinal(f.getModifiers())), "false");
        }
        Constructor<?>[] made = LossFreeTools.class.getDeclaredConstructors();
        check.due("constructors", made.length, 1);
        check.due("its parameters", made[0].getParameterCount(), 2);
        for (Class<?> c : LossFreeTools.class.getDeclaredClasses()) {
            check.due(c.getSimpleName(), Modifier.toString(c.getModifiers()), "private static final");
        }
    }

    private static void source() throws IOException {
        String text = Files.readString(SOURCE);
        for (String word : List.of("import ", "package ", "try {", "catch", "finally", "synchronized",
                "assert ", "->", "::", "Exact", "static {", "java.")) {
            check.due("'" + word + "' in the source", text.indexOf(word), -1);
        }
    }

    /** Rule 6: one of the face's exceptions, with a written text. */
    private static void thrown() throws IOException {
        Pattern written = Pattern.compile(
                "throw new (" + String.join("|", I, A, S, U) + ")\\(\"[a-z ]+\"\\);");
        for (String line : Files.readAllLines(SOURCE)) {
            if (line.contains("throw ")) {
                check.due(line.trim(), String.valueOf(written.matcher(line.trim()).matches()), "true");
            }
        }
    }

    /** Rules 5 and 11: no static state, few classes, fields and parameters. */
    private static void sizes() {
        List<Class<?>> classes = allClasses();
        atMost("classes", classes.size(), CLASSES_MAX);
        for (Class<?> c : classes) {
            int fields = 0;
            for (Field f : c.getDeclaredFields()) {
                boolean constant = Modifier.isStatic(f.getModifiers());
                fields += constant ? 0 : 1;
                check.due(f + " is a constant int or none", String.valueOf(!constant
                        || Modifier.isFinal(f.getModifiers()) && f.getType() == int.class), "true");
            }
            atMost("fields of " + c.getSimpleName(), fields, FIELDS_MAX);
            for (Method m : c.getDeclaredMethods()) {
                atMost("parameters of " + m.getName(), m.getParameterCount(), PARAMETERS_MAX);
            }
        }
    }

    private static List<Class<?>> allClasses() {
        List<Class<?>> classes = new ArrayList<>(List.of(LossFreeTools.class.getDeclaredClasses()));
        classes.add(LossFreeTools.class);
        return classes;
    }

    /** Rule 11: a method ends with a brace that stands as far in as its first line. */
    private static void methodLengths() throws IOException {
        List<String> lines = Files.readAllLines(SOURCE);
        Pattern head = Pattern.compile("( {4}| {8})[a-zA-Z][\\w \\[\\]]*\\(.*");
        int methods = 0;
        for (int i = 0; i < lines.size(); i++) {
            Matcher m = head.matcher(lines.get(i));
            boolean begins = m.matches() && !lines.get(i).contains(";")
                    && !lines.get(i).trim().matches("(if|for|while|switch|return) ?\\(.*");
            if (begins) {
                methods++;
                int end = lines.subList(i, lines.size()).indexOf(m.group(1) + "}");
                check.due("'" + lines.get(i).trim() + "' ends", String.valueOf(end > 0), "true");
                atMost("lines of '" + lines.get(i).trim() + "'", end + 1, LINES_MAX);
            }
        }
        int made = 0;
        for (Class<?> c : allClasses()) {
            made += c.getDeclaredMethods().length;
        }
        // Constructors are found too, so there may be more.
        check.due(methods + " methods are found of " + made, String.valueOf(methods >= made), "true");
    }

    private static void atMost(String what, int got, int most) {
        check.due(what + ", " + got + ", are at most " + most, String.valueOf(got <= most), "true");
    }
}
