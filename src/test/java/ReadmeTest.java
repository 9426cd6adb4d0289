import java.io.IOException;
import java.lang.reflect.Method;
import java.lang.reflect.Modifier;
import java.nio.file.Files;
import java.nio.file.Path;
import java.util.List;
import java.util.regex.Matcher;
import java.util.regex.Pattern;
import java.util.stream.Collectors;
import java.util.stream.Stream;

/** README.md: its example answers as its comments say, and it names every call, every answer below 0 and every test. */
public final class ReadmeTest {
    private static final Check check = new Check();
    private static final Pattern EXAMPLE = Pattern.compile("(?s)```java\n(.*?)```");
    private static final Pattern WRITING = Pattern.compile("for \\(char c : \"(.*)\"\\.toCharArray\\(\\)\\) x\\.write\\(c\\);");
    private static final Pattern CALL = Pattern.compile("x\\.(\\w+)\\(([-0-9, ]*)\\); *// (-?\\d+):.*");

    public static void main(String[] args) throws IOException, ReflectiveOperationException {
        check.promise(0, "README.md");
        String page = Files.readString(Path.of("README.md"));
        example(page);
        calls(page);
        tests(page);
        check.end();
    }

    private static void example(String page) throws ReflectiveOperationException {
        Matcher found = EXAMPLE.matcher(page);
        check.due("an example is found", found.find() ? 1 : 0, 1);
        LabelTree x = new LabelTree();
        String[] lines = found.group(1).split("\n");
        check.dueText("it begins with a new object", lines[0].replaceAll(" *//.*", ""), "LabelTree x = new LabelTree();");
        for (int i = 1; i < lines.length; i++) {
            Matcher writing = WRITING.matcher(lines[i]);
            Matcher call = CALL.matcher(lines[i]);
            if (writing.matches()) {
                Check.write(x, writing.group(1));
            } else if (call.matches()) {
                check.due(lines[i], answer(x, call.group(1), call.group(2)), Long.parseLong(call.group(3)));
            } else {
                check.dueText("a line of the example", lines[i], "a text written, or a call with its answer");
            }
        }
    }

    private static long answer(LabelTree x, String name, String numbers) throws ReflectiveOperationException {
        List<Integer> given = Stream.of(numbers.split(", *")).filter(n -> !n.isEmpty()).map(Integer::valueOf).collect(Collectors.toList());
        Class<?>[] types = new Class<?>[given.size()];
        java.util.Arrays.fill(types, int.class);
        return ((Number) LabelTree.class.getMethod(name, types).invoke(x, given.toArray())).longValue();
    }

    private static void calls(String page) {
        for (Method m : LabelTree.class.getDeclaredMethods()) {
            if (Modifier.isPublic(m.getModifiers())) {
                String form = m.getParameterCount() == 0 ? "`%s()`" : "`%s(";
                check.due(m.getName() + " is told", page.contains(String.format(form, m.getName())) ? 1 : 0, 1);
            }
        }
        String[] answers = {"`BAD` (" + LabelTree.BAD, "`NO` (" + LabelTree.NO, "`FULL` (" + LabelTree.FULL, "`NONE` (" + LabelTree.NONE};
        for (String answer : answers) {
            check.due(answer + ") is told", page.contains("| " + answer + ") |") ? 1 : 0, 1);
        }
    }

    private static void tests(String page) throws IOException {
        try (Stream<Path> files = Files.list(Path.of("src/test/java"))) {
            for (Path file : files.sorted().collect(Collectors.toList())) {
                String name = file.getFileName().toString().replace(".java", "");
                if (name.endsWith("Test")) {
                    check.due(name + " is told", page.contains("| `" + name + "` |") ? 1 : 0, 1);
                }
            }
        }
    }
}
