import java.io.IOException;
import java.lang.reflect.Constructor;
import java.lang.reflect.Field;
import java.lang.reflect.Method;
import java.lang.reflect.Modifier;
import java.nio.file.Files;
import java.nio.file.Path;
import java.util.Arrays;
import java.util.List;
import java.util.TreeSet;

/** The face of the class is the document's, and its source keeps clear of what the rules forbid. */
public final class FaceTest {
    private static final String I = "IndexOutOfBoundsException";
    private static final String A = "IllegalArgumentException";
    private static final String S = "IllegalStateException";
    private static final String U = "UnsupportedOperationException";
    private static final List<String> FACE = List.of(
            "int tile 4 " + A + " " + S + " " + U,
            "int byteOf 2 " + I + " " + A + " " + U,
            "int note 3 " + I + " " + A + " " + U,
            "int crop 4 " + A,
            "int near 1 " + I + " " + S,
            "int turn 1 " + A,
            "int swap 0",
            "int join 1 " + I + " " + S + " " + U,
            "int at 2 " + I,
            "int byteAt 2 " + I,
            "int shown 2 " + I,
            "int noteAt 2 " + I,
            "int write 0",
            "int streamAt 1 " + I,
            "int pointer 1 " + I,
            "int told 1",
            "void clear 0");
    private static final Check check = new Check();

    public static void main(String[] args) throws IOException {
        methods();
        otherMembers();
        source();
        check.end();
    }

    private static void methods() {
        TreeSet<String> found = new TreeSet<>();
        TreeSet<String> names = new TreeSet<>();
        for (Method m : LossFreeTools.class.getDeclaredMethods()) {
            if (!Modifier.isPrivate(m.getModifiers())) {
                found.add(described(m));
                names.add(m.getName());
            }
        }
        check.due("methods", found.toString(), new TreeSet<>(FACE).toString());
        for (Method m : LossFreeTools.class.getDeclaredMethods()) {
            if (Modifier.isPrivate(m.getModifiers())) {
                check.due("private " + m.getName(), String.valueOf(names.contains(m.getName())), "false");
            } else {
                check.due(m.getName(), Modifier.toString(m.getModifiers()), "public");
                check.due(m.getName() + " takes ints", String.valueOf(Arrays.stream(m.getParameterTypes())
                        .allMatch(t -> t == int.class)), "true");
            }
        }
    }

    private static String described(Method m) {
        StringBuilder s = new StringBuilder();
        s.append(m.getReturnType().getSimpleName()).append(' ').append(m.getName());
        s.append(' ').append(m.getParameterCount());
        for (Class<?> e : m.getExceptionTypes()) {
            s.append(' ').append(e.getSimpleName());
        }
        return s.toString();
    }

    private static void otherMembers() {
        check.due("the class", Modifier.toString(LossFreeTools.class.getModifiers()), "public final");
        for (Field f : LossFreeTools.class.getDeclaredFields()) {
            boolean ours = f.getName().equals("NONE");
            check.due(f.getName() + " is public", String.valueOf(Modifier.isPublic(f.getModifiers())),
                    String.valueOf(ours));
            check.due(f.getName() + " is private", String.valueOf(Modifier.isPrivate(f.getModifiers())),
                    String.valueOf(!ours));
            check.due(f.getName() + " is no static state", String.valueOf(
                    Modifier.isStatic(f.getModifiers()) && !Modifier.isFinal(f.getModifiers())), "false");
        }
        Constructor<?>[] made = LossFreeTools.class.getDeclaredConstructors();
        check.due("constructors", made.length, 1);
        check.due("its parameters", made[0].getParameterCount(), 2);
        for (Class<?> c : LossFreeTools.class.getDeclaredClasses()) {
            check.due(c.getSimpleName(), Modifier.toString(c.getModifiers()), "private static final");
        }
    }

    private static void source() throws IOException {
        String text = Files.readString(Path.of("src/main/java/LossFreeTools.java"));
        for (String word : List.of("import ", "package ", "try {", "catch", "finally", "synchronized",
                "assert ", "->", "::", "Exact", "static {", "java.")) {
            check.due("'" + word + "' in the source", text.indexOf(word), -1);
        }
    }
}
