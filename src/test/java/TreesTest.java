/** Promises 1 to 9: texts, trees, labels, the order. */
public final class TreesTest {
    private static final Check check = new Check();

    private static final String FIRST =
            "0:0 7:4.2/1 1:1.5/1 4:3.5/1.5/1 5:2.5/1.7/1 3:1.6/1 6:3.6/1.5/1 2:2.7/1 8:1.7/1.5/1 9:3.7/1.5/1.5/1";

    public static void main(String[] args) {
        newObject();
        write();
        wipe();
        faultOfItems();
        faultOfKinds();
        faultOfNodes();
        faultWithoutKey();
        lay();
        layForgets();
        node();
        child();
        keyOfLabels();
        keysByKind();
        at();
        check.end();
    }

    private static void newObject() {
        check.promise(1, "a new object");
        LabelTree x = new LabelTree();
        check.due("BAD", LabelTree.BAD, -1);
        check.due("NO", LabelTree.NO, -2);
        check.due("FULL", LabelTree.FULL, -3);
        check.due("NONE", LabelTree.NONE, -4);
        check.dueText("labels", Check.labels(x), FIRST);
        int[] counts = {10, 10, 0, 1, 3, 0, 0, 0, 0};
        for (int what = 0; what < counts.length; what++) {
            check.due("count(" + what + ")", x.count(what), counts[what]);
        }
        check.due("matches()", x.matches(), -2);
        check.due("undo()", x.undo(), -2);
        check.due("back()", x.back(), -2);
        check.due("wipe()", x.wipe(), 0);
        check.dueText("the told text's labels", Check.labels(Check.laid(
                "k0;r0;g0,0,1;g0,1,2;g0,1,1;g1,0,3;g1,1,2;g3,0,3;g0,0,4;g2,0,1;g8,0,3;")), FIRST);
        LabelTree y = new LabelTree();
        y.cut(1);
        check.due("count(0) of another object", x.count(0), 10);
    }

    private static void write() {
        check.promise(2, "write");
        LabelTree x = new LabelTree();
        int[] bad = {31, 127, 0, -1, 10, 256 + 65, Integer.MIN_VALUE, Integer.MAX_VALUE};
        for (int letter : bad) {
            check.due("write(" + letter + ")", x.write(letter), -1);
        }
        check.due("count(8) behind bad letters", x.count(8), 0);
        for (int letter = 32; letter <= 126; letter++) {
            check.due("write(" + letter + ")", x.write(letter), letter - 31);
        }
        for (int size = 96; size <= 200; size++) {
            check.due("write to " + size, x.write('r'), size);
        }
        check.due("write(97), full", x.write(97), -3);
        check.due("write(127), bad and full", x.write(127), -1);
        check.due("count(8)", x.count(8), 200);
    }

    private static void wipe() {
        check.promise(3, "wipe");
        LabelTree x = new LabelTree();
        Check.write(x, "r0;");
        check.due("wipe()", x.wipe(), 3);
        check.due("wipe() again", x.wipe(), 0);
        check.due("write behind", x.write('k'), 1);
        check.due("wipe() of one", x.wipe(), 1);
        for (int i = 0; i < 200; i++) {
            x.write('a');
        }
        check.due("wipe() of all", x.wipe(), 200);
        check.due("write behind a full one", x.write('a'), 1);
        x.lay();
        check.due("nodes stay", x.count(0), 10);
    }

    private static void dueFault(String text, int want) {
        check.due("fault of '" + text + "'", Check.fault(new LabelTree(), text), want);
    }

    private static void faultOfItems() {
        check.promise(4, "fault");
        String[] right = {"", "k0;", "r0;", "k3;r5;", "r0;g0,0,1;", "k00;r05;g00,00,05;", "k1;r1;g0,0,2;g01,0,3;"};
        for (String text : right) {
            dueFault(text, -4);
        }
        String[] first = {";", " r0;", "x", "a0;", "R0;", "r", "r0", "r;", "r0,", "r0,0;", "r-1;", "r 0;", "r0 ;",
            "r6;", "r99;", "r000;", "r010;", "k", "k4;", "k10;", "k;", "k0,0;", "g0,0,0;", "g", "0;", ","};
        for (String text : first) {
            dueFault(text, 0);
        }
        String[] third = {";", " ", "x0;", "t1;", "G0,0,1;", "r0;", "k0;", "g", "g0", "g0,", "g0,0", "g0,0,", "g0,0,1", "g0;", "g0,0;", "g0,0,;",
            "g,0,0;", "g0,,0;", "g0,0,1,;", "g0,0,1,1;", "g0;0;0;", "g0,0,6;", "g0,0,001;", "g000,0,1;", "g0,1,1;",
            "g1,0,1;", "g0,0,1:", "g0, 0,1;", "x0,0,0;", "g24,0,0;", "g99,0,0;", "g32,0,0;"};
        for (String text : third) {
            dueFault("r0;" + text, 3);
            dueFault("r0;" + text + "g0,0,0;", 3);
        }
        LabelTree x = new LabelTree();
        Check.fault(x, "r1;");
        check.due("the tree is untouched", x.count(0), 10);
        check.due("the text is untouched", x.count(8), 3);
        check.due("fault() again", x.fault(), -4);
    }

    private static void faultOfKinds() {
        dueFault("k0;k0;", 3);
        dueFault("k0;k1;r0;", 3);
        dueFault("r0;k0;", 3);
        dueFault("r0;g0,0,0;k0;", 10);
        dueFault("k0;r0;r0;", 6);
        dueFault("k0;g0,0,0;r0;", 3);
        dueFault("r0;g0,0,0;g0,0,0;r0;", 17);
        dueFault("r0;g0,0,0;g0,2,0;g0,0,9;", 10);
    }

    private static void faultOfNodes() {
        StringBuilder text = new StringBuilder("r0;");
        for (int v = 1; v <= 23; v++) {
            text.append("g0,").append(v / 2).append(",0;");
        }
        LabelTree x = new LabelTree();
        check.due("fault with 23 put in", Check.fault(x, text.toString()), -4);
        check.due("lay with 23 put in", x.lay(), 24);
        int size = text.length();
        dueFault(text + "g0,0,0;", size);
        dueFault("r0;g0,0,0;g1,1,0;", 10);
        dueFault("r0;g0,0,0;g2,0,0;", 10);
        dueFault("r0;g0,0,0;g1,0,0;g0,1,0;g0,3,0;", 24);
    }

    private static void faultWithoutKey() {
        String[] kinds = {"k1;", "k2;"};
        for (int k = 0; k < 2; k++) {
            StringBuilder text = new StringBuilder(kinds[k] + "r0;");
            for (int i = 0; i < 9; i++) {
                text.append("g0,").append(k == 0 ? 0 : i).append(",1;");
            }
            int size = text.length();
            dueFault(text.toString(), -4);
            dueFault(text + (k == 0 ? "g0,0,1;" : "g0,9,1;"), size);
            String beside = k == 0 ? "g0,1,1;" : "g0,8,1;";
            dueFault(text + beside, -4);
            dueFault(text + beside + (k == 0 ? "g0,1,1;" : "g0,9,1;"), size + 7);
            dueFault(text + (k == 0 ? "g0,9,1;" : "g0,0,1;"), -4);
            dueFault(text + "g1,0,1;", -4);
        }
    }

    private static void lay() {
        check.promise(5, "lay");
        LabelTree x = new LabelTree();
        check.due("lay() of no text", x.lay(), -2);
        check.due("lay without a root", Check.lay(x, "k2;"), -2);
        check.due("lay with a fault", Check.lay(x, "r0;g0,0,1;r1;"), -2);
        check.due("lay, cut short", Check.lay(x, "r0;g0,0,1"), -2);
        check.dueText("nothing has changed", Check.labels(x), FIRST);
        check.due("the kind has not", x.count(5), 0);
        check.due("lay", Check.lay(x, "k2;r3;g0,0,1;g1,0,2;g0,0,5;"), 4);
        check.dueText("labels", Check.labels(x), "0:3 3:5.8/1 1:1.9/1 2:2.9/1.9/1");
        check.due("kind", x.count(5), 2);
        check.due("the text stays", x.count(8), 27);
        check.due("lay again", x.lay(), 4);
        check.due("a root alone", Check.lay(x, "r5;"), 1);
        check.dueText("labels of a root", Check.labels(x), "0:5");
        check.due("kind without k", x.count(5), 0);
        check.due("came", x.count(1), 1);
    }

    private static void layForgets() {
        LabelTree x = new LabelTree();
        Check.pattern(x, "a/b");
        x.grow(0, 0, 0);
        x.keep();
        check.due("lay with a fault", Check.lay(x, "r7;"), -2);
        check.due("steps stay", x.count(2), 2);
        check.due("undo stays", x.count(6), 1);
        check.due("kept stay", x.count(7), 1);
        check.due("lay", Check.lay(x, "r0;g0,0,1;"), 2);
        check.due("steps are gone", x.count(2), 0);
        check.due("matches()", x.matches(), -2);
        check.due("undo is gone", x.count(6), 0);
        check.due("undo()", x.undo(), -2);
        check.due("kept are gone", x.count(7), 0);
        check.due("back()", x.back(), -2);
    }

    private static void node() {
        check.promise(6, "node");
        LabelTree x = new LabelTree();
        int[][] want = {
            {0, -4, 4, 0, 0, 9}, {1, 0, 2, 1, 2, 2}, {2, 0, 1, 1, 7, 2}, {1, 0, 1, 1, 5, 1}, {3, 1, 0, 2, 3, 0},
            {2, 1, 0, 2, 4, 0}, {3, 3, 0, 2, 6, 0}, {4, 0, 0, 1, 1, 0}, {1, 2, 1, 2, 8, 1}, {3, 8, 0, 3, 9, 0}};
        for (int v = 0; v < want.length; v++) {
            for (int what = 0; what < 6; what++) {
                check.due("node(" + v + ", " + what + ")", x.node(v, what), want[v][what]);
            }
        }
        int[] bad = {-1, 10, 23, 24, 31, 32, 33, 64, Integer.MIN_VALUE, Integer.MAX_VALUE};
        for (int v : bad) {
            check.due("node(" + v + ", 0)", x.node(v, 0), -1);
        }
        check.due("node(0, -1)", x.node(0, -1), -1);
        check.due("node(0, 6)", x.node(0, 6), -1);
        x.cut(3);
        check.due("node(3, 0), cut", x.node(3, 0), -1);
        check.due("node(6, 0), cut with it", x.node(6, 0), -1);
        check.due("node(2, 4) behind it", x.node(2, 4), 5);
        check.due("node(0, 2) above it", x.node(0, 2), 3);
        check.due("node(0, 5) above it", x.node(0, 5), 7);
    }

    private static void child() {
        check.promise(7, "child");
        LabelTree x = new LabelTree();
        int[] want = {7, 1, 3, 2, -4, -4};
        for (int i = 0; i < want.length; i++) {
            check.due("child(0, " + i + ")", x.child(0, i), want[i]);
        }
        check.due("child(1, 0)", x.child(1, 0), 4);
        check.due("child(1, 1)", x.child(1, 1), 5);
        check.due("child(1, 2)", x.child(1, 2), -4);
        check.due("child(7, 0)", x.child(7, 0), -4);
        check.due("child(0, most)", x.child(0, Integer.MAX_VALUE), -4);
        check.due("child(0, -1)", x.child(0, -1), -1);
        check.due("child(10, 0)", x.child(10, 0), -1);
        check.due("child(-1, 0)", x.child(-1, 0), -1);
        check.due("child(32, 0)", x.child(32, 0), -1);
        x.cut(1);
        check.due("child(0, 1) behind a cut", x.child(0, 1), 3);
        check.due("child(0, 3) behind a cut", x.child(0, 3), -4);
        check.due("child(1, 0), cut", x.child(1, 0), -1);
    }

    private static void keyOfLabels() {
        check.promise(8, "key");
        LabelTree x = new LabelTree();
        x.grow(0, 0, 0);
        x.grow(0, 0, 0);
        x.grow(11, 0, 0);
        check.dueText("labels", Check.labels(x),
                FIRST.replace("7:4", "11:0.5/2 12:0.5/2.5/1 10:0.1/1 7:4"));
        check.due("key(12, 0, 0)", x.key(12, 0, 0), 5);
        check.due("key(12, 0, 1)", x.key(12, 0, 1), 2);
        check.due("key(12, 1, 0)", x.key(12, 1, 0), 5);
        check.due("key(12, 1, 1)", x.key(12, 1, 1), 1);
        check.due("key(12, 2, 1)", x.key(12, 2, 1), -4);
        check.due("key(12, most, 1)", x.key(12, Integer.MAX_VALUE, 1), -4);
        check.due("key(0, 0, 0)", x.key(0, 0, 0), -4);
        check.due("key(0, 0, 1)", x.key(0, 0, 1), -4);
        check.due("key(0, -1, 0)", x.key(0, -1, 0), -1);
        check.due("key(12, 0, 2)", x.key(12, 0, 2), -1);
        check.due("key(12, 0, -1)", x.key(12, 0, -1), -1);
        check.due("key(0, 0, 2), none and bad", x.key(0, 0, 2), -1);
        check.due("key(13, 0, 0)", x.key(13, 0, 0), -1);
        check.due("key(-1, 0, 0)", x.key(-1, 0, 0), -1);
    }

    private static String keysBelowRoot(String text) {
        LabelTree x = Check.laid(text);
        StringBuilder keys = new StringBuilder();
        for (int v = 1; v < x.count(1); v++) {
            keys.append(x.key(v, 0, 0)).append('/').append(x.key(v, 0, 1)).append(' ');
        }
        return keys.toString().trim();
    }

    private static void keysByKind() {
        check.dueText("middle, always first", keysBelowRoot("r0;g0,0,0;g0,0,0;g0,0,0;g0,0,0;g0,0,0;g0,0,0;"),
                "5/1 2/1 1/1 5/2 2/2 1/2");
        check.dueText("middle, always last", keysBelowRoot("r0;g0,0,0;g0,1,0;g0,2,0;g0,3,0;g0,4,0;g0,5,0;"),
                "5/1 7/1 8/1 9/1 95/2 97/2");
        check.dueText("low", keysBelowRoot("k1;r0;g0,0,0;g0,1,0;g0,0,0;g0,1,0;g0,0,0;"), "1/1 2/1 1/2 2/2 1/3");
        check.dueText("high", keysBelowRoot("k2;r0;g0,0,0;g0,0,0;g0,2,0;g0,2,0;g0,4,0;"), "9/1 8/1 99/2 98/2 999/3");
        check.dueText("near", keysBelowRoot("k3;r0;g0,0,0;g0,1,0;g0,0,0;g0,2,0;g0,0,0;g0,0,0;g0,6,0;g0,7,0;g0,8,0;"),
                "2/1 4/1 1/1 3/1 2/2 1/2 6/1 8/1 9/1");
        check.dueText("over a figure's end", keysBelowRoot("k1;r0;g0,0,0;g0,1,0;g0,1,0;g0,2,0;g0,2,0;"),
                "1/1 2/1 11/2 12/2 111/3");
        check.dueText("fewest figures, over a longer key", crossing(), "2/1");
    }

    /** .1 (9), .19 (10), .2 (8), .3 (7): between .19 and .3 there is .2 again, once it is cut. */
    private static String crossing() {
        LabelTree x = Check.laid("k2;r0;g0,0,0;g0,0,0;g0,0,0;g0,0,0;g0,0,0;g0,0,0;g0,0,0;g0,0,0;g0,0,0;g0,1,0;");
        x.cut(8);
        return x.between(0, 2, 0) + "/" + x.between(0, 2, 1);
    }

    private static void at() {
        check.promise(9, "at");
        LabelTree x = new LabelTree();
        check.dueText("order", Check.order(x), "0 7 1 4 5 3 6 2 8 9");
        check.due("at(9)", x.at(9), 9);
        check.due("at(10)", x.at(10), -4);
        check.due("at(24)", x.at(24), -4);
        check.due("at(most)", x.at(Integer.MAX_VALUE), -4);
        check.due("at(-1)", x.at(-1), -1);
        check.due("at(least)", x.at(Integer.MIN_VALUE), -1);
        x.grow(3, 0, 0);
        x.grow(9, 0, 0);
        check.dueText("order, grown", Check.order(x), "0 7 1 4 5 3 10 6 2 8 9 11");
        x.cut(1);
        check.dueText("order, cut", Check.order(x), "0 7 3 10 6 2 8 9 11");
        check.due("at(9), cut", x.at(9), -4);
    }
}
