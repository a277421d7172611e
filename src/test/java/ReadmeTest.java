import java.io.IOException;
import java.lang.reflect.Method;
import java.nio.file.Files;
import java.nio.file.Path;
import java.util.List;
import java.util.regex.Matcher;
import java.util.regex.Pattern;
import java.util.stream.Collectors;
import java.util.stream.Stream;

/** README.md tells how to use the class: its example answers as it says, and no call and no test is left out. */
public final class ReadmeTest extends Sentences {
    private static final Path PAGE = Path.of("README.md");
    private static final Path TESTS = Path.of("src/test/java");
    private static final Pattern EXAMPLE = Pattern.compile("```java\n(.*?)```", Pattern.DOTALL);
    private static final Pattern TEXT = Pattern.compile("String text = \"([^\"]*)\";");
    private static final Pattern CALL = Pattern.compile("x\\.(\\w+)\\(([^)]*)\\); +// ([-\\w]+): .*");
    private static final Pattern FACE = Pattern.compile("    public int (\\w+)\\(([^)]*)\\);");
    /** Fewer would mean that the example is not read as it is meant. */
    private static final int LEAST_CALLS = 15;

    public static void main(String[] args) throws IOException, ReflectiveOperationException {
        String page = Files.readString(PAGE);
        about("the example of README.md");
        example(page);
        about("README.md names what there is");
        calls(page);
        tests(page);
        end();
    }

    private static void example(String page) throws ReflectiveOperationException {
        Matcher block = EXAMPLE.matcher(page);
        String code = block.find() ? block.group(1) : "";
        Matcher text = TEXT.matcher(code);
        CardBecome x = feedAll(new CardBecome(), text.find() ? text.group(1) : "");
        int answered = 0;
        for (String line : code.split("\n")) {
            Matcher call = CALL.matcher(line);
            if (call.matches()) {
                due(line, answer(x, call.group(1), call.group(2)), value(call.group(3)));
                answered++;
            } else {
                due("rows that are calls without an answer: " + line, line.startsWith("x.") ? 1 : 0, 0);
            }
        }
        due("calls that are too few", Math.min(answered, LEAST_CALLS), LEAST_CALLS);
    }

    private static int answer(CardBecome x, String name, String told) throws ReflectiveOperationException {
        Object[] numbers = Stream.of(told.split(", ")).filter(one -> !one.isEmpty()).map(ReadmeTest::value).toArray();
        for (Method method : CardBecome.class.getDeclaredMethods()) {
            if (method.getName().equals(name) && method.getParameterCount() == numbers.length) {
                return (Integer) method.invoke(x, numbers);
            }
        }
        throw new NoSuchMethodException(name + " of " + numbers.length);
    }

    private static int value(String word) {
        switch (word.replace("CardBecome.", "")) {
            case "NONE": return CardBecome.NONE;
            case "UNKNOWN": return CardBecome.UNKNOWN;
            case "OUTSIDE": return CardBecome.OUTSIDE;
            case "NOT": return CardBecome.NOT;
            case "FULL": return CardBecome.FULL;
            default: return Integer.parseInt(word);
        }
    }

    private static void calls(String page) throws IOException {
        Matcher face = FACE.matcher(Files.readString(Path.of("../shared/DOC.md")));
        int calls = 0;
        while (face.find()) {
            String call = "`" + face.group(1) + "(" + face.group(2).replace("int ", "") + ")`";
            due("the page has " + call, page.contains(call) ? 1 : 0, 1);
            calls++;
        }
        due("calls of the face", calls, 35);
    }

    private static void tests(String page) throws IOException {
        List<String> names;
        try (Stream<Path> files = Files.list(TESTS)) {
            names = files.map(file -> file.getFileName().toString().replace(".java", "")).collect(Collectors.toList());
        }
        for (String name : names) {
            due("the page has `" + name + "`", page.contains("`" + name + "`") ? 1 : 0, 1);
        }
    }
}
