import java.io.IOException;
import java.lang.reflect.InvocationTargetException;
import java.lang.reflect.Method;
import java.nio.file.Files;
import java.nio.file.Path;
import java.util.ArrayList;
import java.util.Arrays;
import java.util.List;
import java.util.TreeSet;
import java.util.regex.Matcher;
import java.util.regex.Pattern;
import java.util.stream.Collectors;
import java.util.stream.Stream;

/** What README.md says of the calls and of the tests is so. */
public final class ReadmeTest {
    private static final Path TESTS = Path.of("src/test/java");
    private static final Pattern MADE = Pattern.compile("LossFreeTools t = new LossFreeTools\\((\\d+), (\\d+)\\);");
    private static final Pattern CALL = Pattern.compile("t\\.(\\w+)\\(([-\\d, ]*)\\); +// (throws \\w+|-?\\d+|\\w+).*");
    private static final Pattern ROW = Pattern.compile("\\| `(\\w+)\\(([\\w, ]*)\\)` \\| .*\\| ?(.*) \\|");
    private static final Check check = new Check();

    public static void main(String[] args) throws IOException, ReflectiveOperationException {
        List<String> lines = Files.readAllLines(Path.of("README.md"));
        example(lines);
        table(lines);
        tests(String.join("\n", lines));
        check.due(".ci/run can be run", String.valueOf(Files.isExecutable(Path.of(".ci/run"))), "true");
        check.end();
    }

    /** Every line of the example is played, and every call of the face is among them. */
    private static void example(List<String> lines) throws ReflectiveOperationException {
        List<String> code = lines.subList(lines.indexOf("```java") + 1, lines.size());
        code = code.subList(0, code.indexOf("```"));
        Matcher made = MADE.matcher(code.get(0));
        check.due("the example makes an object", String.valueOf(made.matches()), "true");
        LossFreeTools t = new LossFreeTools(Integer.parseInt(made.group(1)), Integer.parseInt(made.group(2)));
        TreeSet<String> used = new TreeSet<>();
        for (String line : code.subList(1, code.size())) {
            Matcher call = CALL.matcher(line);
            boolean read = call.matches();
            check.due("'" + line + "' can be read", String.valueOf(read), "true");
            if (read) {
                used.add(call.group(1));
                play(t, call);
            }
        }
        check.due("the calls of the example", used.toString(), names().toString());
    }

    private static void play(LossFreeTools t, Matcher call) throws ReflectiveOperationException {
        Method method = methodNamed(call.group(1));
        Object[] arguments = parts(call.group(2)).stream().map(Integer::valueOf).toArray();
        String answer;
        try {
            answer = String.valueOf(method.invoke(t, arguments));
        } catch (InvocationTargetException e) {
            answer = "throws " + e.getCause().getClass().getSimpleName();
        }
        boolean silent = method.getReturnType() == void.class;
        check.due("README's " + call.group(), answer, silent ? "null" : call.group(3));
    }

    /** Every call of the face has a row, with its exceptions in their order. */
    private static void table(List<String> lines) {
        TreeSet<String> told = new TreeSet<>();
        for (String line : lines) {
            Matcher row = ROW.matcher(line);
            if (row.matches()) {
                told.add(row.group(1));
                Method method = methodNamed(row.group(1));
                String thrown = Arrays.stream(method.getExceptionTypes())
                        .map(e -> e.getSimpleName().replace("Exception", ""))
                        .collect(Collectors.joining(", "));
                check.due("README's row of " + row.group(1), row.group(3), thrown);
                check.due("its arguments", parts(row.group(2)).size(), method.getParameterCount());
            }
        }
        check.due("the calls that have a row", told.toString(), names().toString());
    }

    /** Every test and helper is named, and none that is not there. */
    private static void tests(String text) throws IOException {
        List<String> files = new ArrayList<>();
        try (Stream<Path> found = Files.list(TESTS)) {
            found.forEach(p -> files.add(p.getFileName().toString().replace(".java", "")));
        }
        for (String name : files) {
            check.due(name + " is named", String.valueOf(text.contains("`" + name + "`")), "true");
        }
        Matcher named = Pattern.compile("\\b[A-Z]\\w*Test\\b").matcher(text);
        while (named.find()) {
            check.due(named.group() + " is there", String.valueOf(files.contains(named.group())), "true");
        }
    }

    private static List<String> parts(String arguments) {
        return arguments.isEmpty() ? List.of() : List.of(arguments.split(", "));
    }

    private static TreeSet<String> names() {
        return Arrays.stream(LossFreeTools.class.getMethods())
                .filter(m -> m.getDeclaringClass() == LossFreeTools.class)
                .map(Method::getName)
                .collect(Collectors.toCollection(TreeSet::new));
    }

    private static Method methodNamed(String name) {
        return Arrays.stream(LossFreeTools.class.getMethods())
                .filter(m -> m.getName().equals(name))
                .findFirst()
                .orElseThrow(() -> new AssertionError("README names " + name + ", which is no call"));
    }
}
