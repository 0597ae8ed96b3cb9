import java.io.IOException;
import java.lang.reflect.InvocationTargetException;
import java.lang.reflect.Method;
import java.lang.reflect.Modifier;
import java.nio.file.Files;
import java.nio.file.Path;
import java.util.ArrayList;
import java.util.List;
import java.util.Set;
import java.util.TreeSet;
import java.util.regex.Matcher;
import java.util.regex.Pattern;
import java.util.stream.Collectors;
import java.util.stream.Stream;

/** What README.md says that can be tried out: its example's answers, and its tables of calls and of tests. */
public final class ReadmeTest {
    private static final Pattern EXAMPLE = Pattern.compile("desk\\.(\\w+)\\((.*?)\\); +// (.*)");
    private static final Pattern ANSWER = Pattern.compile("(NONE|true|false|\\d+): .*");
    private static final Pattern CALL_ROW = Pattern.compile("\\| `(\\w+)\\((.*?)\\)` \\|.*\\| ?(.*?) ?\\|");
    private static final Pattern TEST_ROW = Pattern.compile("\\| (\\w+Test) \\|.*");

    private static final Check check = new Check("ReadmeTest");

    public static void main(String[] args) throws IOException, ReflectiveOperationException {
        Path root = Path.of(args.length > 0 ? args[0] : ".");
        List<String> lines = Files.readAllLines(root.resolve("README.md"));
        example(lines);
        calls(lines);
        tests(lines, root.resolve("src/test/java"));
        check.end();
    }

    private static void example(List<String> lines) throws ReflectiveOperationException {
        FlyingDesk desk = new FlyingDesk();
        int answers = 0;
        for (String line : lines) {
            Matcher call = EXAMPLE.matcher(line);
            if (call.matches()) {
                String answer = answer(desk, method(call.group(1)), numbers(call.group(2)));
                Matcher told = ANSWER.matcher(call.group(3));
                boolean tells = told.matches();
                check.same(line + " tells an answer", String.valueOf(answer != null), String.valueOf(tells));
                if (tells) {
                    check.same(line, told.group(1).replace("NONE", "-1"), answer);
                    answers++;
                }
            }
        }
        check.yes("the example has answers", answers > 0);
    }

    /** What the call answers, as a text; null if it answers nothing. */
    private static String answer(FlyingDesk desk, Method method, Object[] numbers) throws ReflectiveOperationException {
        try {
            Object answer = method.invoke(desk, numbers);
            return answer == null ? null : answer.toString();
        } catch (InvocationTargetException e) {
            return e.getCause().toString();
        }
    }

    private static Object[] numbers(String text) {
        List<Object> found = new ArrayList<>();
        for (String word : words(text)) {
            if (word.equals("true") || word.equals("false")) {
                found.add(Boolean.valueOf(word));
            } else if (word.startsWith("0b")) {
                found.add(Integer.valueOf(word.substring(2), 2));
            } else {
                found.add(Integer.valueOf(word));
            }
        }
        return found.toArray();
    }

    private static void calls(List<String> lines) {
        Set<String> told = new TreeSet<>();
        for (String line : lines) {
            Matcher row = CALL_ROW.matcher(line);
            if (row.matches()) {
                told.add(row.group(1) + " of " + words(row.group(2)).size() + " throws " + words(row.group(3)));
            }
        }
        Set<String> due = new TreeSet<>();
        for (Method method : face()) {
            due.add(method.getName() + " of " + method.getParameterCount() + " throws " + throwing(method));
        }
        check.same("the tables of calls", due.toString(), told.toString());
    }

    private static List<String> throwing(Method method) {
        List<String> words = new ArrayList<>();
        for (Class<?> type : method.getExceptionTypes()) {
            words.add(type == IndexOutOfBoundsException.class ? "index"
                : type == IllegalArgumentException.class ? "argument" : "state");
        }
        return words;
    }

    private static void tests(List<String> lines, Path folder) throws IOException {
        Set<String> told = new TreeSet<>();
        for (String line : lines) {
            Matcher row = TEST_ROW.matcher(line);
            if (row.matches()) {
                told.add(row.group(1) + ".java");
            }
        }
        try (Stream<Path> files = Files.list(folder)) {
            Set<String> due = files.map(file -> file.getFileName().toString())
                .filter(name -> name.endsWith("Test.java")).collect(Collectors.toCollection(TreeSet::new));
            check.same("the tables of tests", due.toString(), told.toString());
        }
    }

    private static Method method(String name) throws NoSuchMethodException {
        for (Method method : face()) {
            if (method.getName().equals(name)) {
                return method;
            }
        }
        throw new NoSuchMethodException(name);
    }

    private static List<Method> face() {
        List<Method> found = new ArrayList<>();
        for (Method method : FlyingDesk.class.getDeclaredMethods()) {
            if (Modifier.isPublic(method.getModifiers())) {
                found.add(method);
            }
        }
        return found;
    }

    private static List<String> words(String text) {
        return text.isEmpty() ? List.of() : List.of(text.split(", "));
    }
}
