import java.io.IOException;
import java.lang.reflect.Method;
import java.lang.reflect.Modifier;
import java.nio.file.Files;
import java.nio.file.Path;
import java.util.Arrays;
import java.util.HashSet;
import java.util.List;
import java.util.Set;
import java.util.TreeSet;
import java.util.regex.Matcher;
import java.util.regex.Pattern;

/** README.md: its example, its calls, its constants and the tests that it names. Run from the project's folder. */
public final class ReadmeTest {
    private static final Pattern EXAMPLE = Pattern.compile("^host\\.(\\w+)\\(([-0-9, ]*)\\); +// ([-\\w]+)");
    private static final Pattern CALL = Pattern.compile("^\\| `(\\w+ \\w+)\\(([^)]*)\\)` \\|");
    private static final Pattern CONSTANT = Pattern.compile("^\\| `(\\w+)` \\| (-?\\d+) \\|");
    private static final Pattern TEST = Pattern.compile("\\b([A-Z]\\w*Test)\\.([a-z]\\w*)");

    public static void main(String[] args) throws IOException, ReflectiveOperationException {
        List<String> lines = Files.readAllLines(Path.of("README.md"));
        theExampleAnswersSo(lines);
        theCallsAreThose(lines);
        theConstantsAreThose(lines);
        theTestsAreThere(lines);
        Due.end();
    }

    /** Makes each call of the example, by its name, and looks at the answer that stands behind it. */
    private static void theExampleAnswersSo(List<String> lines) throws ReflectiveOperationException {
        PageMerger host = new PageMerger(8);
        Set<String> shown = new TreeSet<>();
        for (String line : lines) {
            if (!line.startsWith("host.")) {
                continue;
            }
            Matcher m = EXAMPLE.matcher(line);
            boolean readable = m.find();
            Due.due("the form of the line '" + line + "'", readable, true);
            if (readable) {
                shown.add(m.group(1));
                Due.due(line, answer(host, m.group(1), m.group(2)), dueAnswer(m.group(3)));
            }
        }
        // A scan has no answer to show.
        shown.add("scan");
        Set<String> names = new TreeSet<>();
        for (Method method : publicMethods()) {
            names.add(method.getName());
        }
        Due.due("the calls that the example shows", shown, names);
    }

    private static String answer(PageMerger host, String name, String numbers) throws ReflectiveOperationException {
        Object[] values = numbers.isBlank() ? new Object[0]
            : Arrays.stream(numbers.split(", ")).map(Integer::valueOf).toArray();
        Class<?>[] types = new Class<?>[values.length];
        Arrays.fill(types, int.class);
        return String.valueOf(PageMerger.class.getMethod(name, types).invoke(host, values));
    }

    private static String dueAnswer(String shown) throws ReflectiveOperationException {
        boolean constant = Character.isUpperCase(shown.charAt(0));
        return constant ? String.valueOf(PageMerger.class.getField(shown).getInt(null)) : shown;
    }

    private static void theCallsAreThose(List<String> lines) {
        Set<String> told = new TreeSet<>();
        for (String line : lines) {
            Matcher m = CALL.matcher(line);
            if (m.find()) {
                told.add(m.group(1) + "(" + m.group(2).replaceAll("(\\w+) \\w+", "$1") + ")");
            }
        }
        Set<String> want = new TreeSet<>();
        for (Method method : publicMethods()) {
            String types = String.join(", ", Arrays.stream(method.getParameterTypes()).map(Class::getName).toList());
            want.add(method.getReturnType() + " " + method.getName() + "(" + types + ")");
        }
        Due.due("the calls in the table", told, want);
    }

    private static void theConstantsAreThose(List<String> lines) {
        Set<String> told = new TreeSet<>();
        for (String line : lines) {
            Matcher m = CONSTANT.matcher(line);
            if (m.find()) {
                told.add(m.group(1) + " = " + m.group(2));
            }
        }
        Due.due("the constants in the table", told, Set.of("BAD_PAGE = -1", "BAD_WORD = -2", "RELEASED = -3"));
    }

    private static void theTestsAreThere(List<String> lines) throws ClassNotFoundException {
        int named = 0;
        for (String line : lines) {
            Matcher m = TEST.matcher(line);
            while (m.find()) {
                named++;
                Set<String> methods = new HashSet<>();
                for (Method method : Class.forName(m.group(1)).getDeclaredMethods()) {
                    methods.add(method.getName());
                }
                Due.due("a test " + m.group(), methods.contains(m.group(2)), true);
            }
        }
        Due.due("tests are named", named > 0, true);
    }

    private static List<Method> publicMethods() {
        return Arrays.stream(PageMerger.class.getDeclaredMethods())
            .filter(method -> Modifier.isPublic(method.getModifiers())).toList();
    }
}
