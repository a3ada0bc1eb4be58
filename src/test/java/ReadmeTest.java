import java.lang.reflect.Method;
import java.lang.reflect.Modifier;
import java.nio.file.Files;
import java.nio.file.Path;
import java.util.ArrayList;
import java.util.Arrays;
import java.util.List;
import java.util.regex.Matcher;
import java.util.regex.Pattern;
import java.util.stream.Stream;

/** README.md tells the truth: its examples answer so, it names each call, and each test that it names is there. */
public final class ReadmeTest {
    private static final Path README = Path.of("README.md"), TESTS = Path.of("src/test/java");
    private static final Due due = new Due("ReadmeTest");

    public static void main(String[] args) throws Exception {
        String readme = Files.readString(README);
        examples(readme);
        calls(readme);
        tests(readme);
        due.end();
    }

    private static void examples(String readme) {
        Matcher blocks = Pattern.compile("(?s)```java\n(.*?)```").matcher(readme);
        int asked = 0;
        while (blocks.find()) {
            PapersEarly x = new PapersEarly();
            for (String line : blocks.group(1).split("\n")) {
                Matcher fed = Pattern.compile("feed\\(x, \"([^\"]*)\"\\);.*").matcher(line);
                Matcher call = Pattern.compile("x\\.(\\w+)\\(([-0-9, ]*)\\);\\s*// = (-?[0-9]+)\\b.*").matcher(line);
                if (fed.matches()) {
                    Streets.feed(x, fed.group(1));
                } else if (call.matches()) {
                    due.is(line, Ask.call(x, call.group(1), numbers(call.group(2))), Long.parseLong(call.group(3)));
                    asked++;
                } else {
                    due.holds("a line of an example: " + line, line.equals("PapersEarly x = new PapersEarly();"));
                }
            }
        }
        due.is("calls in examples", asked, 18);
    }

    private static int[] numbers(String all) {
        return all.isEmpty() ? new int[0] : Arrays.stream(all.split(", ")).mapToInt(Integer::parseInt).toArray();
    }

    private static void calls(String readme) {
        for (Method m : PapersEarly.class.getDeclaredMethods()) {
            if (Modifier.isPublic(m.getModifiers())) {
                String row = "\\| (`\\w+\\(\\)`, )?`" + m.getName() + "\\((\\w+(, )?){" + m.getParameterCount() + "}\\)`[ ,]";
                due.holds("README.md has a row for " + m.getName(), Pattern.compile(row).matcher(readme).find());
            }
        }
    }

    private static void tests(String readme) throws Exception {
        List<String> files = new ArrayList<>();
        StringBuilder sources = new StringBuilder();
        try (Stream<Path> all = Files.list(TESTS)) {
            for (Path file : (Iterable<Path>) all::iterator) {
                files.add(file.getFileName().toString().replace(".java", ""));
                sources.append(Files.readString(file));
            }
        }
        Matcher named = Pattern.compile("\\b(?!EdgesTest)([A-Z]\\w*Test)\\b|\\b(p[0-9]{2}\\w+)").matcher(readme);
        while (named.find()) {
            String method = named.group(2);
            boolean there = method == null ? files.contains(named.group(1)) : sources.indexOf(" void " + method + "()") >= 0;
            due.holds(named.group() + " is there", there);
        }
        for (String file : files) {
            due.holds("README.md names " + file, !file.endsWith("Test") || readme.contains(file));
        }
        for (int promise = 1; promise <= 32; promise++) {
            due.holds("README.md has a row for promise " + promise, readme.contains("\n| " + promise + " "));
        }
    }
}
