import java.io.IOException;
import java.lang.reflect.Method;
import java.nio.file.Files;
import java.nio.file.Path;
import java.util.List;
import java.util.regex.Matcher;
import java.util.regex.Pattern;
import java.util.stream.Collectors;
import java.util.stream.Stream;

/** What README.md says is so: the answers in its code, the calls and the tests that it names. Run in the project's folder. */
public final class ReadmeTest {
    private static final Pattern NEW = Pattern.compile("FourWaters x = new FourWaters\\(\\);\\s*(//.*)?");
    private static final Pattern TYPED = Pattern.compile("x\\.type\\(\"([^\"]*)\"\\);");
    private static final Pattern CALL = Pattern.compile("x\\.(\\w+)\\(([^)]*)\\);\\s*// (-?\\d+)(: .*)?");
    private static final Check check = new Check();
    private static FourWaters x = new FourWaters();

    public static void main(String[] args) throws IOException {
        String readme = Files.readString(Path.of("README.md"));
        code(readme);
        calls(readme);
        tests(readme);
        check.end();
    }

    private static void code(String readme) {
        Matcher blocks = Pattern.compile("(?s)```java\n(.*?)```").matcher(readme);
        int lines = 0;
        while (blocks.find()) {
            for (String line : blocks.group(1).split("\n")) {
                line(line);
                lines++;
            }
        }
        check.due("README.md has code (1 if so), and it", lines > 0 ? 1 : 0, 1);
    }

    private static void line(String line) {
        Matcher typed = TYPED.matcher(line);
        Matcher call = CALL.matcher(line);
        if (NEW.matcher(line).matches()) {
            x = new FourWaters();
        } else if (typed.matches()) {
            typed.group(1).chars().forEach(x::type);
        } else if (call.matches()) {
            check.due("README.md: " + line, Calls.call(x, call.group(1), numbers(call.group(2))), Long.parseLong(call.group(3)));
        } else {
            check.due("README.md: '" + line + "' is a call with its answer (1 if so), and", 0, 1);
        }
    }

    private static int[] numbers(String row) {
        return Stream.of(row.split(", ")).filter(n -> !n.isEmpty()).mapToInt(Integer::parseInt).toArray();
    }

    private static void named(String readme, String name) {
        check.due("README.md names " + name + " (1 if so), and", readme.contains("`" + name + "`") ? 1 : 0, 1);
    }

    private static void calls(String readme) {
        for (Method m : Calls.all()) {
            named(readme, m.getName());
        }
    }

    private static void tests(String readme) throws IOException {
        List<String> files;
        try (Stream<Path> all = Files.list(Path.of("src/test/java"))) {
            files = all.map(p -> p.getFileName().toString().replace(".java", "")).sorted().collect(Collectors.toList());
        }
        for (String file : files) {
            named(readme, file);
        }
        Matcher m = Pattern.compile("`(\\w+Test)`").matcher(readme);
        while (m.find()) {
            check.due("there is a " + m.group(1) + " (1 if so), and", files.contains(m.group(1)) ? 1 : 0, 1);
        }
    }
}
