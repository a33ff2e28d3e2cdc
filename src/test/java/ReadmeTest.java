import java.io.IOException;
import java.lang.reflect.Method;
import java.lang.reflect.Modifier;
import java.nio.file.Files;
import java.nio.file.Path;
import java.util.List;
import java.util.regex.Matcher;
import java.util.regex.Pattern;
import java.util.stream.Collectors;
import java.util.stream.Stream;

/** README.md says what is so; it is run from the root of the project. */
public final class ReadmeTest {
    private static final Pattern TEXT = Pattern.compile("String text = \"([^\"]*)\";");
    private static final Pattern CALL = Pattern.compile("(?m)^bell\\.(\\w+)\\(([^)]*)\\);\\s*// (-?\\d+):");

    public static void main(String[] args) throws Exception {
        String page = Files.readString(Path.of("README.md"));
        theExampleAnswers(page);
        eachCallIsNamed(page);
        eachTestIsNamed(page);
        Checks.end();
    }

    private static void theExampleAnswers(String page) throws ReflectiveOperationException {
        Checks.part("the example");
        Matcher text = TEXT.matcher(page);
        Checks.due(text.find(), "there is no text of an inn");
        BellRope bell = new BellRope();
        Checks.feed(bell, text.group(1));
        Matcher call = CALL.matcher(page);
        int calls = 0;
        while (call.find()) {
            calls++;
            Checks.due(call.group(), answer(bell, call.group(1), call.group(2)), Integer.parseInt(call.group(3)));
        }
        long lines = page.lines().filter(line -> line.startsWith("bell.")).count();
        Checks.due("lines of the example that are looked at", calls, lines);
        Checks.due(calls > 0, "the example has no call");
    }

    private static int answer(BellRope bell, String name, String numbers) throws ReflectiveOperationException {
        List<Integer> given = numbers.isEmpty() ? List.of()
            : Stream.of(numbers.split(", ")).map(Integer::valueOf).collect(Collectors.toList());
        Class<?>[] types = given.stream().map(n -> int.class).toArray(Class<?>[]::new);
        return (int) BellRope.class.getMethod(name, types).invoke(bell, given.toArray());
    }

    private static void eachCallIsNamed(String page) {
        Checks.part("the calls");
        String calls = page.substring(page.indexOf("### The calls"));
        for (Method m : BellRope.class.getDeclaredMethods()) {
            if (Modifier.isPublic(m.getModifiers())) {
                Checks.due(calls.contains("`" + m.getName() + "`"), m.getName() + " is not named");
            }
        }
    }

    private static void eachTestIsNamed(String page) throws IOException {
        Checks.part("the tests");
        try (Stream<Path> files = Files.list(Path.of("src/test/java"))) {
            for (Path file : files.collect(Collectors.toList())) {
                String name = file.getFileName().toString().replace(".java", "");
                Checks.due(page.contains("`" + name + "`") || page.contains("`" + name + ".java`"), name + " is not named");
            }
        }
    }
}
