import java.io.IOException;
import java.io.UncheckedIOException;
import java.nio.file.Files;
import java.nio.file.Path;

/** Counts and prints answers that are not as due; ends with exit code 1 if there was one. */
final class Check {
    private static final Path DOCUMENT = Path.of("../shared/DOC.md");

    private int asked = 0;
    private int wrong = 0;
    private String where = "";

    void promise(int number, String name) {
        where = "promise " + number + " (" + name + ")";
    }

    /** What follows tests these words, which must stand in the document, where it can be read. */
    void sentence(String words) {
        where = "'" + words + "'";
        if (Files.isReadable(DOCUMENT)) {
            due("found in the document", document().contains(words) ? 1 : 0, 1);
        }
    }

    private static String document() {
        try {
            return Files.readString(DOCUMENT);
        } catch (IOException e) {
            throw new UncheckedIOException(e);
        }
    }

    void due(String what, long got, long want) {
        asked++;
        if (got != want) {
            wrong++;
            System.out.println(where + ": " + what + " answered " + got + ", due is " + want);
        }
    }

    void dueText(String what, String got, String want) {
        asked++;
        if (!got.equals(want)) {
            wrong++;
            System.out.println(where + ": " + what + " was " + got + ", due is " + want);
        }
    }

    void end() {
        if (wrong != 0) {
            System.out.println(wrong + " of " + asked + " answers are not as due");
            System.exit(1);
        }
        System.out.println("all " + asked + " answers are as due");
    }

    static void write(LabelTree x, String text) {
        for (int i = 0; i < text.length(); i++) {
            x.write(text.charAt(i));
        }
    }

    static int fault(LabelTree x, String text) {
        x.wipe();
        write(x, text);
        return x.fault();
    }

    static int lay(LabelTree x, String text) {
        x.wipe();
        write(x, text);
        return x.lay();
    }

    static LabelTree laid(String text) {
        LabelTree x = new LabelTree();
        lay(x, text);
        return x;
    }

    static int pattern(LabelTree x, String text) {
        x.wipe();
        write(x, text);
        return x.pattern();
    }

    /** The nodes in the order, as one text. */
    static String order(LabelTree x) {
        StringBuilder nodes = new StringBuilder();
        for (int k = 0; x.at(k) >= 0; k++) {
            nodes.append(k == 0 ? "" : " ").append(x.at(k));
        }
        return nodes.toString();
    }

    /** Each node's tag and label, in the order. */
    static String labels(LabelTree x) {
        StringBuilder all = new StringBuilder();
        for (int k = 0; x.at(k) >= 0; k++) {
            int v = x.at(k);
            all.append(v).append(':').append(x.node(v, 0));
            for (int i = 0; x.key(v, i, 1) >= 0; i++) {
                all.append('.').append(x.key(v, i, 0)).append('/').append(x.key(v, i, 1));
            }
            all.append(' ');
        }
        return all.toString().trim();
    }

    static String ends(LabelTree x) {
        StringBuilder nodes = new StringBuilder();
        for (int k = 0; x.end(k) >= 0; k++) {
            nodes.append(k == 0 ? "" : " ").append(x.end(k));
        }
        return nodes.toString();
    }
}
