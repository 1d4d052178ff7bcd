import java.io.IOException;
import java.lang.reflect.Method;
import java.nio.file.Files;
import java.nio.file.Path;
import java.util.ArrayList;
import java.util.List;
import java.util.Set;
import java.util.TreeSet;
import java.util.regex.Matcher;
import java.util.regex.Pattern;

/** README.md against the class and the document: its example, and its table of the calls. */
public final class ReadmeTest extends Checks {
    private static final Path README = Path.of("README.md");

    public static void main(String[] args) throws IllegalAccessException {
        runAll(ReadmeTest.class);
    }

    private static void theExampleAnswersWhatItSays() throws IOException, ReflectiveOperationException {
        String example = first("(?s)```java\n(.*?)```", Files.readString(README));
        JumpLengths x = new JumpLengths();
        type(x, first("\"([^\"]*)\"", example));
        Matcher call = Pattern.compile("(?m)^x\\.(\\w+)\\(([^)]*)\\); +// (-?\\d+)").matcher(example);
        int calls = 0;
        while (call.find()) {
            due(call.group(), answer(x, call.group(1), call.group(2)), Integer.parseInt(call.group(3)));
            calls++;
        }
        due("lines of the example that were run", calls, count("(?m)^x\\.", example));
        if (calls == 0) fail("the example has no calls");
    }

    private static void theTableHasEachCall() throws IOException {
        Set<String> face = new TreeSet<>();
        for (Method method : JumpLengths.class.getMethods()) {
            if (method.getDeclaringClass() == JumpLengths.class) face.add(method.getName());
        }
        Set<String> told = new TreeSet<>();
        for (Matcher row = rows(); row.find(); ) {
            told.add(row.group(1));
            String promised = "int " + row.group(1) + "(";
            if (!promiseOf(row.group(1)).contains(promised)) fail("the document has no " + promised);
        }
        if (!told.equals(face)) fail("README.md has " + told + ", the face has " + face);
    }

    private static void theTableHasTheNamesOfWhatCallsTake() throws IOException {
        for (Matcher row = rows(); row.find(); ) {
            String names = first("`int \\w+\\(([^)]*)\\)`", promiseOf(row.group(1))).replace("int ", "");
            if (!row.group(2).equals(names)) fail(row.group(1) + " takes (" + names + "), not (" + row.group(2) + ")");
        }
    }

    private static void theTableHasAllRefusals() throws IOException {
        for (Matcher row = rows(); row.find(); ) {
            Set<String> promised = refusals(promiseOf(row.group(1)));
            Set<String> told = refusals(row.group(3));
            if (!told.equals(promised)) fail(row.group(1) + " is refused by " + promised + ", README.md has " + told);
        }
        if (!promiseOf("source").contains("-10 less FAULT")) fail("source is not refused by -10 less FAULT");
    }

    private static void theTestsAreNamed() throws IOException {
        String readme = Files.readString(README);
        try (var files = Files.list(Path.of("src/test/java"))) {
            for (Path file : (Iterable<Path>) files::iterator) {
                String name = file.getFileName().toString().replace(".java", "");
                if (!readme.contains("`" + name + "`")) fail("README.md does not name " + name);
            }
        }
        if (!readme.contains(".ci/run")) fail("README.md does not name .ci/run");
    }

    /** The rows of the table of calls: the name, what it takes, when it is refused. */
    private static Matcher rows() throws IOException {
        return Pattern.compile("(?m)^\\| `(\\w+)\\(([^)]*)\\)` \\|.*\\| ([^|]*) \\|$").matcher(Files.readString(README));
    }

    private static String promiseOf(String name) throws IOException {
        return first("(?s)## Promise \\d+: " + name + "\n(.*?)(?:\n## |$)", Files.readString(Path.of("../shared/DOC.md")));
    }

    private static Set<String> refusals(String words) {
        Set<String> found = new TreeSet<>();
        Matcher word = Pattern.compile("\\b(BAD|STATE|FULL|NONE|NO)\\b").matcher(words);
        while (word.find()) found.add(word.group());
        return found;
    }

    private static int answer(JumpLengths x, String name, String numbers) throws ReflectiveOperationException {
        List<Object> values = new ArrayList<>();
        List<Class<?>> types = new ArrayList<>();
        for (String number : numbers.isBlank() ? new String[0] : numbers.split(",")) {
            values.add(Integer.parseInt(number.trim()));
            types.add(int.class);
        }
        return (int) JumpLengths.class.getMethod(name, types.toArray(new Class<?>[0])).invoke(x, values.toArray());
    }

    private static String first(String pattern, String text) {
        Matcher matcher = Pattern.compile(pattern).matcher(text);
        if (matcher.find()) return matcher.group(1);
        fail("there is no " + pattern);
        return "";
    }

    private static int count(String pattern, String text) {
        Matcher matcher = Pattern.compile(pattern).matcher(text);
        int found = 0;
        while (matcher.find()) found++;
        return found;
    }
}
