import java.io.IOException;
import java.lang.reflect.InvocationTargetException;
import java.lang.reflect.Method;
import java.lang.reflect.Modifier;
import java.nio.file.DirectoryStream;
import java.nio.file.Files;
import java.nio.file.Path;
import java.util.ArrayList;
import java.util.List;
import java.util.Set;
import java.util.TreeSet;
import java.util.regex.Matcher;
import java.util.regex.Pattern;

/** README.md: the answers in its example are those that are due, and it tells of every test. */
public final class ReadmeTest {
    private static final Path README = Path.of("README.md");
    private static final Path TESTS = Path.of("src", "test", "java");

    private static final String MADE = "ThreePrimes x = new ThreePrimes();";
    private static final Pattern CALL =
            Pattern.compile("x\\.(\\w+)\\(([-0-9, ]*)\\);(?: +// (.*))?");
    private static final Pattern ANSWER = Pattern.compile("(-?\\d+|throws \\w+)(?:,.*)?");
    private static final String NO_ANSWER = "nothing";

    /** One line of the example. */
    private static final class Call {
        final String text;
        final String method;
        final Object[] arguments;
        final String due;

        Call(String line, Matcher parts) {
            text = line;
            method = parts.group(1);
            arguments = numbers(parts.group(2));
            due = parts.group(3) == null ? NO_ANSWER : answer(parts.group(3));
        }

        private static Object[] numbers(String list) {
            if (list.isEmpty()) {
                return new Object[0];
            }
            String[] parts = list.split(", ");
            Object[] numbers = new Object[parts.length];
            for (int i = 0; i < parts.length; i++) {
                numbers[i] = Integer.valueOf(parts[i]);
            }
            return numbers;
        }

        private static String answer(String comment) {
            Matcher answer = ANSWER.matcher(comment);
            return answer.matches() ? answer.group(1) : comment;
        }
    }

    public static void main(String[] args) {
        Check.runTestsOf(ReadmeTest.class);
    }

    private static void exampleHoldsForTheClass() throws Exception {
        checkExample("the class", new ThreePrimes());
    }

    /** The Model is the document once more: so the example says what the document asks for. */
    private static void exampleHoldsForTheDocument() throws Exception {
        checkExample("the model", new Model());
    }

    private static void exampleMakesItsObjectFirst() throws IOException {
        List<String> lines = exampleLines();
        Check.that("README.md has no example", !lines.isEmpty());
        Check.same("the example's first line", MADE, lines.isEmpty() ? "" : lines.get(0));
    }

    private static void exampleUsesTheWholeFace() throws IOException {
        Set<String> face = new TreeSet<>();
        for (Method method : ThreePrimes.class.getDeclaredMethods()) {
            if (Modifier.isPublic(method.getModifiers())) {
                face.add(method.getName());
            }
        }
        Set<String> used = new TreeSet<>();
        for (Call call : exampleCalls()) {
            used.add(call.method);
        }
        Check.same("what the example calls", face.toString(), used.toString());
    }

    private static void tellsHowTestsAreRun() throws IOException {
        Check.that("README.md does not name .ci/run", tells(".ci/run"));
        Check.that("README.md does not name ../shared/tests", tells("../shared/tests"));
    }

    private static void tellsOfEveryTest() throws IOException {
        try (DirectoryStream<Path> files = Files.newDirectoryStream(TESTS, "*.java")) {
            for (Path file : files) {
                String name = file.getFileName().toString().replace(".java", "");
                Check.that("README.md does not name " + name, tells(name));
            }
        }
    }

    private static boolean tells(String name) throws IOException {
        return Files.readString(README).contains("`" + name + "`");
    }

    private static void checkExample(String whose, Object x) throws Exception {
        for (Call call : exampleCalls()) {
            Check.same("by " + whose + " the answer of " + call.text, call.due, answerOf(x, call));
        }
    }

    private static String answerOf(Object x, Call call) throws IllegalAccessException {
        try {
            Object answer = method(x, call).invoke(x, call.arguments);
            return answer == null ? NO_ANSWER : answer.toString();
        } catch (InvocationTargetException e) {
            return "throws " + e.getCause().getClass().getSimpleName();
        }
    }

    private static Method method(Object x, Call call) {
        for (Method method : x.getClass().getDeclaredMethods()) {
            if (method.getName().equals(call.method)) {
                return method;
            }
        }
        throw new IllegalArgumentException("there is no method for " + call.text);
    }

    private static List<Call> exampleCalls() throws IOException {
        List<Call> calls = new ArrayList<>();
        for (String line : exampleLines()) {
            Matcher parts = CALL.matcher(line);
            if (parts.matches()) {
                calls.add(new Call(line, parts));
            } else {
                Check.that("no call of the example: " + line, line.equals(MADE));
            }
        }
        return calls;
    }

    /** The lines of the one java block, but for blank ones and those that are comments alone. */
    private static List<String> exampleLines() throws IOException {
        List<String> lines = new ArrayList<>();
        boolean inside = false;
        for (String line : Files.readAllLines(README)) {
            if (line.startsWith("```")) {
                inside = line.equals("```java");
            } else if (inside && !line.isBlank() && !line.startsWith("//")) {
                lines.add(line);
            }
        }
        return lines;
    }
}
