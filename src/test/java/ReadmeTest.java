import java.io.IOException;
import java.lang.reflect.InvocationTargetException;
import java.lang.reflect.Method;
import java.lang.reflect.Modifier;
import java.nio.file.Files;
import java.nio.file.Path;
import java.util.List;
import java.util.regex.Matcher;
import java.util.regex.Pattern;
import java.util.stream.Stream;

/** What README.md shows is so: its calls answer as it says, and it leaves out no call and no test. */
public final class ReadmeTest {
    private static final Path README = Path.of("README.md");
    private static final Path TESTS = Path.of("src/test/java");
    private static final String MADE = "BoxballHall hall = new BoxballHall();";
    private static final Pattern SHOWN = Pattern.compile("hall\\.(\\w+)\\(([^)]*)\\);\\s*// (.+)");

    public static void main(String[] args) throws IOException {
        String readme = Files.readString(README);
        int blocks = 0;
        Matcher block = Pattern.compile("(?s)```java\n(.*?)```").matcher(readme);
        while (block.find()) {
            blocks++;
            shownAnswersAreDue(block.group(1).lines().toList());
        }
        Check.due("blocks of calls", 4, blocks);
        allCallsAreNamed(readme);
        allTestsAreNamed(readme);
        Check.end("ReadmeTest");
    }

    private static void shownAnswersAreDue(List<String> lines) {
        Check.due("a block begins with a new object", MADE, lines.get(0));
        BoxballHall hall = new BoxballHall();
        for (String line : lines.subList(1, lines.size())) {
            Matcher shown = SHOWN.matcher(line);
            Check.due("a call and its answer: " + line, true, shown.matches());
            if (shown.matches()) {
                Check.due(line, shown.group(3), answer(hall, shown.group(1), shown.group(2)));
            }
        }
    }

    private static String answer(BoxballHall hall, String name, String told) {
        Method method = Stream.of(calls()).filter(one -> one.getName().equals(name)).findFirst().orElse(null);
        if (method == null) {
            return "no such call";
        }
        String[] words = told.isEmpty() ? new String[0] : told.split(", ");
        Object[] arguments = Stream.of(words).map(ReadmeTest::valueOf).toArray();
        try {
            return String.valueOf(method.invoke(hall, arguments));
        } catch (InvocationTargetException e) {
            return "throws " + e.getCause().getClass().getSimpleName();
        } catch (IllegalAccessException | IllegalArgumentException e) {
            return "cannot be called so";
        }
    }

    private static Object valueOf(String word) {
        boolean isTruth = word.equals("true") || word.equals("false");
        return isTruth ? (Object) Boolean.valueOf(word) : Integer.valueOf(word);
    }

    private static Method[] calls() {
        return Stream.of(BoxballHall.class.getDeclaredMethods())
            .filter(method -> Modifier.isPublic(method.getModifiers()))
            .toArray(Method[]::new);
    }

    private static void allCallsAreNamed(String readme) {
        for (Method method : calls()) {
            Check.due(method.getName() + " is named", true, readme.contains("`" + method.getName() + "`"));
        }
    }

    private static void allTestsAreNamed(String readme) throws IOException {
        try (Stream<Path> files = Files.list(TESTS)) {
            for (Path file : files.toList()) {
                String name = file.getFileName().toString().replace(".java", "");
                Check.due(name + " is named", true, !name.endsWith("Test") || readme.contains("| `" + name + "` |"));
            }
        }
    }
}
