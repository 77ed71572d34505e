import java.io.IOException;
import java.lang.reflect.Method;
import java.lang.reflect.Modifier;
import java.nio.file.Files;
import java.nio.file.Path;
import java.util.Arrays;
import java.util.List;
import java.util.regex.Matcher;
import java.util.regex.Pattern;
import java.util.stream.Collectors;
import java.util.stream.Stream;

/** README.md: its example answers what it says, and it names every call and every test. */
public final class ReadmeTest {
    private static final Check CHECK = new Check();
    private static final Pattern CALL = Pattern.compile("p\\.(\\w+)\\(([-0-9, ]*)\\);\\s+// (-?\\d+)");

    public static void main(String[] args) throws IOException, ReflectiveOperationException {
        // .ci/run starts the tests in the project's folder
        String readme = Files.readString(Path.of("README.md"));
        exampleAnswersAsItSays(readme);
        namesEveryCall(readme);
        namesEveryTest(readme);
        CHECK.end();
    }

    private static void exampleAnswersAsItSays(String readme) throws ReflectiveOperationException {
        String example = readme.split("```java\n")[1].split("```")[0];
        Matcher text = Pattern.compile("\"(.*)\"").matcher(example);
        CHECK.holds("there is a text", text.find());
        TwoPrints p = new TwoPrints();
        Check.types(p, text.group(1));
        Matcher call = CALL.matcher(example);
        int calls = 0;
        while (call.find()) {
            calls++;
            CHECK.due(call.group(), answer(p, call.group(1), call.group(2)), Long.parseLong(call.group(3)));
        }
        // else the pattern passes over some
        CHECK.due("calls with an answer", calls, example.lines().filter(line -> line.contains("// ")).count());
    }

    private static long answer(TwoPrints p, String name, String numbers) throws ReflectiveOperationException {
        Object[] arguments = Stream.of(numbers.split(",")).map(String::trim).filter(number -> !number.isEmpty())
            .map(Integer::valueOf).toArray();
        Class<?>[] types = new Class<?>[arguments.length];
        Arrays.fill(types, int.class);
        return ((Number) TwoPrints.class.getMethod(name, types).invoke(p, arguments)).longValue();
    }

    private static void namesEveryCall(String readme) {
        for (Method method : TwoPrints.class.getDeclaredMethods()) {
            if (Modifier.isPublic(method.getModifiers())) {
                CHECK.holds("README.md names " + method.getName(), readme.contains("`" + method.getName() + "`"));
            }
        }
    }

    private static void namesEveryTest(String readme) throws IOException {
        List<String> tests;
        try (Stream<Path> files = Files.list(Path.of("src/test/java"))) {
            tests = files.map(file -> file.getFileName().toString()).filter(name -> name.endsWith("Test.java"))
                .map(name -> name.replace(".java", "")).collect(Collectors.toList());
        }
        for (String test : tests) {
            CHECK.holds("README.md names " + test, readme.contains("| " + test + " |"));
        }
    }
}
