import java.io.IOException;
import java.lang.reflect.Method;
import java.lang.reflect.Modifier;
import java.nio.file.Files;
import java.nio.file.Path;
import java.util.List;
import java.util.regex.Matcher;
import java.util.regex.Pattern;
import java.util.stream.Collectors;
import java.util.stream.Stream;

/** README.md's example answers what it says, and it tells of each call of the face and of each test. */
public final class ReadmeTest {
    private static final Pattern EXAMPLE = Pattern.compile("proof\\.(\\w+)\\(([-0-9, ]*)\\); *// (ok|-?\\d+): .*");
    private static final Pattern TEST = Pattern.compile("`(\\w+Test)`");

    private static int wrong;

    private ReadmeTest() {
    }

    public static void main(String[] arguments) throws IOException {
        List<String> lines = Files.readAllLines(Path.of("README.md"));
        runExample(lines);
        findCalls(lines);
        findTests(lines);
        System.out.println(wrong == 0 ? "README.md is as due" : wrong + " things in README.md are not as due");
        System.exit(wrong == 0 ? 0 : 1);
    }

    private static void runExample(List<String> lines) {
        Caller caller = new Caller(new ParserProof());
        int calls = 0;
        for (String line : lines) {
            Matcher example = EXAMPLE.matcher(line);
            if (example.matches()) {
                calls++;
                String got = caller.call(example.group(1), numbers(example.group(2)));
                need(got.equals(example.group(3)), line + " answers " + got);
            } else {
                need(!line.startsWith("proof."), line + " does not say what it answers");
            }
        }
        need(calls > 0, "there is no example");
    }

    private static int[] numbers(String written) {
        return Stream.of(written.split(",")).map(String::trim).filter(number -> !number.isEmpty()).mapToInt(Integer::parseInt).toArray();
    }

    private static void findCalls(List<String> lines) {
        need(has(lines, "- `ParserProof()`: "), "the constructor is not told");
        for (Method method : ParserProof.class.getDeclaredMethods()) {
            if (Modifier.isPublic(method.getModifiers())) {
                String begins = "- `" + method.getReturnType() + " " + method.getName() + "(";
                need(lines.stream().filter(line -> line.startsWith(begins) && parametersOf(line) == method.getParameterCount()).count() == 1,
                    method.getName() + " is not told once");
            }
        }
    }

    private static int parametersOf(String line) {
        String between = line.substring(line.indexOf('(') + 1, line.indexOf(')'));
        return between.isEmpty() ? 0 : between.split(",").length;
    }

    private static boolean has(List<String> lines, String begins) {
        return lines.stream().anyMatch(line -> line.startsWith(begins));
    }

    private static void findTests(List<String> lines) throws IOException {
        String told = TEST.matcher(String.join("\n", lines)).results().map(found -> found.group(1)).sorted().distinct().collect(Collectors.joining(" "));
        try (Stream<Path> files = Files.list(Path.of("src/test/java"))) {
            String there = files.map(file -> file.getFileName().toString()).filter(name -> name.endsWith("Test.java"))
                .map(name -> name.substring(0, name.length() - ".java".length())).sorted().collect(Collectors.joining(" "));
            need(told.equals(there), "the tests told are " + told + ", those there are " + there);
        }
    }

    private static void need(boolean holds, String otherwise) {
        if (!holds) {
            wrong++;
            System.out.println(otherwise);
        }
    }
}
