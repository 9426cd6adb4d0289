/** All small texts, read as trees and as patterns, each answer held against the model's. */
public final class SmallTextsTest {
    private static final Check check = new Check();
    private static final String[] ITEMS = {"k0;", "k3;", "k4;", "r0;", "r5;", "r6;", "g0,0,0;", "g0,1,5;", "g1,0,0;", "g0,0,6;", "g1,1,1;",
        "r0"};
    private static final String[] TREE_LETTERS = {"k", "r", "g", "0", "6", ",", ";"};
    private static final String[] PATTERN_LETTERS = {"a", "g", "*", "/", "~", "[", "]"};

    public static void main(String[] args) {
        check.promise(4, "fault, small texts");
        each(ITEMS, 4, "", SmallTextsTest::asTree);
        each(TREE_LETTERS, 5, "", SmallTextsTest::asTree);
        each(TREE_LETTERS, 4, "r0;g0,0", SmallTextsTest::asTree);
        check.promise(18, "pattern, small texts");
        each(PATTERN_LETTERS, 5, "", SmallTextsTest::asPattern);
        each(PATTERN_LETTERS, 4, "a[/b", SmallTextsTest::asPattern);
        each(PATTERN_LETTERS, 4, "a[/b][/c[/d]/e", SmallTextsTest::asPattern);
        each(PATTERN_LETTERS, 4, "a/b/c[/d/e[/f/*", SmallTextsTest::asPattern);
        check.end();
    }

    private interface Reading {
        void of(String text);
    }

    private static void each(String[] parts, int most, String text, Reading reading) {
        reading.of(text);
        if (most > 0) {
            for (String part : parts) {
                each(parts, most - 1, text + part, reading);
            }
        }
    }

    private static Model model(String text) {
        Model model = new Model();
        for (int i = 0; i < text.length(); i++) {
            model.write(text.charAt(i));
        }
        return model;
    }

    private static void asTree(String text) {
        LabelTree x = new LabelTree();
        Model model = model(text);
        check.due("fault of '" + text + "'", Check.fault(x, text), model.fault());
        int nodes = x.lay();
        check.due("lay of '" + text + "'", nodes, model.lay());
        if (nodes > 0) {
            check.due("kind", x.count(5), model.count(5));
            for (int v = 0; v < nodes; v++) {
                check.due("tag", x.node(v, 0), model.node(v, 0));
                check.due("parent", x.node(v, 1), model.node(v, 1));
                check.due("place", x.node(v, 4), model.node(v, 4));
            }
        }
    }

    private static void asPattern(String text) {
        LabelTree x = new LabelTree();
        Model model = model(text);
        int steps = Check.pattern(x, text);
        check.due("pattern of '" + text + "'", steps, model.pattern());
        for (int q = 0; q < steps; q++) {
            for (int what = 0; what < 3; what++) {
                check.due("step(" + q + ", " + what + ") of '" + text + "'", x.step(q, what), model.step(q, what));
            }
        }
    }
}
