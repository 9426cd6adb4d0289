import java.io.IOException;
import java.io.PrintWriter;
import java.io.StringWriter;
import java.net.URISyntaxException;
import java.nio.file.Files;
import java.nio.file.Path;
import java.util.ArrayList;
import java.util.HashMap;
import java.util.List;
import java.util.Map;
import java.util.Set;
import java.util.TreeSet;
import java.util.regex.Matcher;
import java.util.regex.Pattern;
import java.util.spi.ToolProvider;
import java.util.stream.Stream;

/**
 * Who calls whom, read off the compiled program by the JDK's own javap: the library's part that rule 4 of
 * LANGUAGE.md leaves, no recursion (rule 8), calls at most eight deep (rule 11), nothing thrown or caught (rule 6).
 */
public final class CallsTest {
    private static final Check check = new Check();
    private static final int DEEPEST = 8;

    /** What of the library the program may call, as javap tells it. */
    private static final Set<String> LIBRARY = Set.of("java/lang/Object.\"<init>\":()V", "java/lang/String.length:()I",
            "java/lang/String.charAt:(I)C", "java/lang/Math.max:(II)I", "java/lang/Math.min:(II)I", "java/lang/Integer.bitCount:(I)I",
            "java/util/Arrays.fill:([JJ)V", "java/lang/System.arraycopy:(Ljava/lang/Object;ILjava/lang/Object;II)V");

    private static final Pattern OWNER = Pattern.compile("^(?:\\w+ )*class ([\\w$]+)(?: .*)?\\{$");
    private static final Pattern METHOD = Pattern.compile("^  (?! )(?:.*? )?([\\w$]+)\\(.*\\);$");
    private static final Pattern CALL = Pattern.compile("// (?:Interface)?Method (\\S+)$");

    /** For each method of the program those of the program that it calls. */
    private final Map<String, Set<String>> calls = new HashMap<>();
    private final Map<String, Integer> depths = new HashMap<>();
    private final List<String> open = new ArrayList<>();

    public static void main(String[] args) throws IOException, URISyntaxException {
        check.promise(0, "who calls whom");
        CallsTest test = new CallsTest();
        test.read(compiled());
        check.due("methods are found", test.calls.size() > 100 ? 1 : 0, 1);
        check.due("the face is found", test.calls.containsKey("LabelTree.matches") ? 1 : 0, 1);
        for (String method : new TreeSet<>(test.calls.keySet())) {
            check.due("calls below " + method + " beyond " + DEEPEST, Math.max(0, test.depth(method) - DEEPEST), 0);
        }
        check.end();
    }

    private static String compiled() throws IOException, URISyntaxException {
        Path place = Path.of(LabelTree.class.getProtectionDomain().getCodeSource().getLocation().toURI());
        List<String> arguments = new ArrayList<>(List.of("-p", "-c"));
        try (Stream<Path> files = Files.list(place)) {
            files.filter(f -> f.getFileName().toString().matches("LabelTree(\\$.*)?\\.class")).sorted()
                    .forEach(f -> arguments.add(f.toString()));
        }
        StringWriter told = new StringWriter();
        PrintWriter out = new PrintWriter(told);
        ToolProvider javap = ToolProvider.findFirst("javap").orElseThrow();
        check.due("javap", javap.run(out, out, arguments.toArray(new String[0])), 0);
        out.flush();
        return told.toString();
    }

    private void read(String told) {
        String owner = "";
        String method = "";
        for (String line : told.split("\\R")) {
            Matcher m = OWNER.matcher(line);
            if (m.find()) {
                owner = m.group(1);
                continue;
            }
            m = METHOD.matcher(line);
            if (m.find()) {
                method = owner + "." + (m.group(1).equals(owner) ? "\"<init>\"" : m.group(1));
                calls.computeIfAbsent(method, name -> new TreeSet<>());
                continue;
            }
            check.due(method + " throws or catches", line.matches(".*(\\bathrow\\b|Exception table).*") ? 1 : 0, 0);
            check.due(method + " makes a call at the machine's will", line.contains("invokedynamic") ? 1 : 0, 0);
            m = CALL.matcher(line);
            if (m.find()) {
                called(owner, method, m.group(1));
            }
        }
    }

    private void called(String owner, String method, String name) {
        if (name.startsWith("java/")) {
            check.due(method + " calls " + name + ", which rule 4 leaves", LIBRARY.contains(name) ? 1 : 0, 1);
            return;
        }
        String bare = name.substring(0, name.indexOf(':'));
        calls.get(method).add(bare.matches("[\\w$]+\\..*") ? bare : owner + "." + bare);
    }

    /** How many calls stand open at most, its own one too. */
    private int depth(String method) {
        if (open.contains(method)) {
            check.dueText("a call of itself", String.join(" > ", open) + " > " + method, "none");
            return 0;
        }
        if (!depths.containsKey(method)) {
            open.add(method);
            int most = 0;
            for (String next : calls.getOrDefault(method, Set.of())) {
                check.due(next + " is found", calls.containsKey(next) ? 1 : 0, 1);
                most = Math.max(most, depth(next));
            }
            open.remove(method);
            depths.put(method, most + 1);
        }
        return depths.get(method);
    }
}
