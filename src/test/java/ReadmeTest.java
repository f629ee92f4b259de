import java.io.IOException;
import java.lang.reflect.Method;
import java.nio.file.Files;
import java.nio.file.Path;
import java.util.ArrayList;
import java.util.List;
import java.util.Set;
import java.util.TreeSet;
import java.util.regex.Matcher;
import java.util.regex.Pattern;
import java.util.stream.Stream;

/** What README.md tells of the class holds: the answers in its example, the calls that it lists, the tests it names. */
public final class ReadmeTest {
    private static final Path FILE = Path.of("README.md");
    private static final Path TESTS = Path.of("src/test/java");
    private static final String MADE = "PrizeDesk desk = new PrizeDesk();";
    private static final Pattern EXAMPLE = Pattern.compile("(?s)```java\n(.*?)```");
    private static final Pattern CALL = Pattern.compile("desk\\.(\\w+)\\((.*?)\\); +// (-?\\d+|true|false)\\b.*");
    private static final Pattern LISTED = Pattern.compile("(?m)^\\| `(\\w+)\\(");
    private static final Pattern NAMED = Pattern.compile("(?m)^\\| (\\w+Test) \\|");

    private ReadmeTest() {
    }

    public static void main(String[] args) throws IOException, ReflectiveOperationException {
        Check check = new Check();
        String text = Files.readString(FILE);
        check.in("the example in README.md");
        runExample(check, text);
        check.in("the calls in README.md");
        same(check, namesIn(text, LISTED), publicMethods());
        check.in("the tests in README.md");
        same(check, namesIn(text, NAMED), testFiles());
        check.end();
    }

    private static void runExample(Check check, String text) throws ReflectiveOperationException {
        Matcher example = EXAMPLE.matcher(text);
        if (!example.find()) {
            check.fail("there is none");
            return;
        }
        PrizeDesk desk = new PrizeDesk();
        Set<String> used = new TreeSet<>();
        for (String line : example.group(1).split("\n")) {
            Matcher call = CALL.matcher(line);
            if (call.matches()) {
                used.add(call.group(1));
                Object got = methodOf(call.group(1)).invoke(desk, numbersIn(call.group(2)));
                check.due(line, got.toString().equals(call.group(3)), true);
            } else if (!line.isBlank() && !line.startsWith("//") && !line.equals(MADE)) {
                check.fail("no call with its answer: " + line);
            }
        }
        same(check, used, publicMethods());
    }

    private static Object[] numbersIn(String arguments) {
        List<Object> found = new ArrayList<>();
        for (String argument : arguments.split(",")) {
            String number = argument.trim();
            if (number.startsWith("'")) {
                found.add((int) number.charAt(1));
            } else if (!number.isEmpty()) {
                found.add(Long.decode(number).intValue());
            }
        }
        return found.toArray();
    }

    private static Method methodOf(String name) throws NoSuchMethodException {
        for (Method method : PrizeDesk.class.getDeclaredMethods()) {
            if (method.getName().equals(name)) {
                return method;
            }
        }
        throw new NoSuchMethodException(name);
    }

    private static Set<String> publicMethods() {
        Set<String> found = new TreeSet<>();
        for (Method method : PrizeDesk.class.getMethods()) {
            if (method.getDeclaringClass() == PrizeDesk.class) {
                found.add(method.getName());
            }
        }
        return found;
    }

    private static Set<String> testFiles() throws IOException {
        Set<String> found = new TreeSet<>();
        try (Stream<Path> files = Files.list(TESTS)) {
            files.map(file -> file.getFileName().toString()).filter(name -> name.endsWith("Test.java"))
                    .forEach(name -> found.add(name.substring(0, name.length() - ".java".length())));
        }
        return found;
    }

    private static Set<String> namesIn(String text, Pattern pattern) {
        Set<String> found = new TreeSet<>();
        Matcher name = pattern.matcher(text);
        while (name.find()) {
            found.add(name.group(1));
        }
        return found;
    }

    private static void same(Check check, Set<String> got, Set<String> want) {
        if (!got.equals(want)) {
            check.fail("names " + got + ", due are " + want);
        }
    }
}
