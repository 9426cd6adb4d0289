/** Promises 10 to 17 and 24 to 26: acts, what labels tell, trees kept, counts. */
public final class ActsTest {
    private static final Check check = new Check();

    public static void main(String[] args) {
        grow();
        growFull();
        growWithoutKey();
        cut();
        tag();
        undo();
        undoEight();
        undoEightOfAllSorts();
        undoFreesNumbers();
        between();
        ahead();
        above();
        meet();
        keep();
        back();
        backForgets();
        count();
        check.end();
    }

    private static void grow() {
        check.promise(10, "grow");
        LabelTree x = new LabelTree();
        String before = Check.labels(x);
        int[][] bad = {{-1, 0, 0}, {10, 0, 0}, {24, 0, 0}, {32, 0, 0}, {0, -1, 0}, {0, 5, 0}, {4, 1, 0}, {0, 0, -1},
            {0, 0, 6}, {Integer.MIN_VALUE, 0, 0}, {0, Integer.MAX_VALUE, 0}};
        for (int[] b : bad) {
            check.due("grow(" + b[0] + ", " + b[1] + ", " + b[2] + ")", x.grow(b[0], b[1], b[2]), -1);
        }
        check.dueText("bad ones change nothing", Check.labels(x), before);
        check.due("nor what can be undone", x.count(6), 0);
        check.due("grow(0, 4, 5)", x.grow(0, 4, 5), 10);
        check.due("grow(10, 0, 0)", x.grow(10, 0, 0), 11);
        check.due("grow(0, 0, 2)", x.grow(0, 0, 2), 12);
        check.due("grow(0, 2, 1)", x.grow(0, 2, 1), 13);
        check.dueText("labels", Check.labels(x), before.replace("7:4", "12:2.1/1 7:4").replace("1:1.5/1", "13:1.3/1 1:1.5/1")
                + " 10:5.8/1 11:0.8/1.5/1");
        x.cut(12);
        check.due("below one that is cut", x.grow(12, 0, 0), -1);
        check.due("the next number", x.grow(0, 0, 0), 14);
    }

    private static void growFull() {
        LabelTree x = new LabelTree();
        for (int v = 10; v < 24; v++) {
            check.due("grow to " + v, x.grow(v - 1, 0, v % 6), v);
        }
        check.due("grow, full", x.grow(0, 0, 0), -3);
        check.due("grow, bad and full", x.grow(0, 9, 0), -1);
        check.due("count(6), full", x.count(6), 8);
        x.cut(10);
        check.due("grow, cut but full", x.grow(0, 0, 0), -3);
        check.due("count(1)", x.count(1), 24);
    }

    private static void growWithoutKey() {
        LabelTree x = Check.laid("k1;r0;");
        for (int v = 1; v <= 9; v++) {
            check.due("grow to " + v + " figures", x.grow(0, 0, 0), v);
            check.due("key(" + v + ", 0, 0)", x.key(v, 0, 0), 1);
            check.due("key(" + v + ", 0, 1)", x.key(v, 0, 1), v);
        }
        check.due("grow without a key", x.grow(0, 0, 0), -2);
        check.due("count(1)", x.count(1), 9 + 1);
        check.due("count(6)", x.count(6), 8);
        check.due("grow with one, behind", x.grow(0, 9, 0), 10);
        x.cut(9);
        check.due("grow with one, free again", x.grow(0, 0, 0), 11);
        check.due("its figures", x.key(11, 0, 1), 9);
        for (int v = 12; v < 24; v++) {
            x.grow(11, 0, 0);
            x.cut(v);
        }
        check.due("full and without a key", x.grow(0, 0, 0), -3);
    }

    private static void cut() {
        check.promise(11, "cut");
        LabelTree x = new LabelTree();
        check.due("cut(0)", x.cut(0), -2);
        check.due("cut(10)", x.cut(10), -1);
        check.due("cut(-1)", x.cut(-1), -1);
        check.due("cut(32)", x.cut(32), -1);
        check.due("count(6)", x.count(6), 0);
        check.due("cut(8)", x.cut(8), 2);
        check.due("cut(9), gone", x.cut(9), -1);
        check.dueText("labels", Check.labels(x),
                "0:0 7:4.2/1 1:1.5/1 4:3.5/1.5/1 5:2.5/1.7/1 3:1.6/1 6:3.6/1.5/1 2:2.7/1");
        check.due("cut(1)", x.cut(1), 3);
        check.due("cut(7)", x.cut(7), 1);
        check.dueText("labels", Check.labels(x), "0:0 3:1.6/1 6:3.6/1.5/1 2:2.7/1");
        check.due("count(1)", x.count(1), 10);
        check.due("the next number", x.grow(0, 0, 0), 10);
    }

    private static void tag() {
        check.promise(12, "tag");
        LabelTree x = new LabelTree();
        check.due("tag(7, 4), it is", x.tag(7, 4), -2);
        check.due("count(6)", x.count(6), 0);
        check.due("tag(7, 6)", x.tag(7, 6), -1);
        check.due("tag(7, -1)", x.tag(7, -1), -1);
        check.due("tag(10, 0)", x.tag(10, 0), -1);
        check.due("tag(-1, 0)", x.tag(-1, 0), -1);
        check.due("tag(7, 0)", x.tag(7, 0), 4);
        check.due("node(7, 0)", x.node(7, 0), 0);
        check.due("tag(7, 5)", x.tag(7, 5), 0);
        check.due("tag(0, 5)", x.tag(0, 5), 0);
        check.due("count(6)", x.count(6), 3);
        x.cut(7);
        check.due("tag(7, 1), cut", x.tag(7, 1), -1);
        LabelTree y = new LabelTree();
        Check.pattern(y, "e");
        check.due("matches ahead", y.matches(), 1);
        y.tag(1, 4);
        check.due("matches behind", y.matches(), 2);
    }

    private static void undo() {
        check.promise(13, "undo");
        LabelTree x = new LabelTree();
        check.due("undo() of nothing", x.undo(), -2);
        String first = Check.labels(x);
        x.grow(3, 1, 5);
        String grown = Check.labels(x);
        x.tag(3, 0);
        String tagged = Check.labels(x);
        x.cut(3);
        x.grow(0, 2, 4);
        check.due("the same key again", x.key(11, 0, 0), 6);
        check.due("undo() of grow", x.undo(), 3);
        check.due("undo() of cut", x.undo(), 2);
        check.dueText("labels", Check.labels(x), tagged);
        check.due("undo() of tag", x.undo(), 1);
        check.dueText("labels", Check.labels(x), grown);
        check.due("undo() of grow", x.undo(), 0);
        check.dueText("labels", Check.labels(x), first);
        check.due("undo() of nothing more", x.undo(), -2);
        Check.pattern(x, "*");
        x.grow(0, 0, 0);
        check.due("matches", x.matches(), 11);
        x.undo();
        check.due("matches, undone", x.matches(), 10);
    }

    private static void undoEight() {
        LabelTree x = new LabelTree();
        for (int i = 0; i < 11; i++) {
            x.tag(0, (i + 1) % 6);
            check.due("count(6) behind " + (i + 1), x.count(6), Math.min(i + 1, 8));
        }
        for (int i = 9; i >= 2; i--) {
            check.due("undo() to " + i, x.undo(), i - 2);
            check.due("tag", x.node(0, 0), (i + 1) % 6);
        }
        check.due("undo() of the ninth", x.undo(), -2);
        check.due("tag", x.node(0, 0), 3);
    }

    private static void undoEightOfAllSorts() {
        LabelTree x = new LabelTree();
        String[] before = new String[12];
        for (int i = 0; i < 12; i++) {
            before[i] = Check.labels(x);
            if (i % 3 == 0) {
                x.grow(i % 2 == 0 ? 0 : 9, 0, 0);
            } else if (i % 3 == 1) {
                x.tag(i % 4, 5);
            } else {
                x.cut(4 + i / 3);
            }
        }
        for (int i = 11; i >= 4; i--) {
            check.due("undo() to " + i, x.undo(), i - 4);
            check.dueText("labels of " + i, Check.labels(x), before[i]);
        }
        check.due("undo() of the ninth", x.undo(), -2);
    }

    private static void undoFreesNumbers() {
        LabelTree x = new LabelTree();
        x.grow(0, 0, 0);
        x.undo();
        check.due("came", x.count(1), 10);
        check.due("node(10, 0)", x.node(10, 0), -1);
        check.due("grow again", x.grow(9, 0, 5), 10);
        check.due("its parent", x.node(10, 1), 9);
        x.cut(10);
        x.undo();
        check.due("came, undone a cut", x.count(1), 11);
        check.due("its parent", x.node(10, 1), 9);
        LabelTree y = new LabelTree();
        for (int v = 10; v < 24; v++) {
            y.grow(0, 0, 0);
            y.cut(v);
        }
        check.due("full", y.grow(0, 0, 0), -3);
        y.undo();
        y.undo();
        check.due("not full", y.grow(0, 0, 0), 23);
    }

    private static void between() {
        check.promise(14, "between");
        LabelTree x = new LabelTree();
        int[][] want = {{1, 1}, {3, 1}, {55, 2}, {65, 2}, {8, 1}};
        for (int place = 0; place < want.length; place++) {
            check.due("between(0, " + place + ", 0)", x.between(0, place, 0), want[place][0]);
            check.due("between(0, " + place + ", 1)", x.between(0, place, 1), want[place][1]);
        }
        check.due("between(0, 5, 0)", x.between(0, 5, 0), -1);
        check.due("between(0, -1, 0)", x.between(0, -1, 0), -1);
        check.due("between(4, 1, 0)", x.between(4, 1, 0), -1);
        check.due("between(0, 0, 2)", x.between(0, 0, 2), -1);
        check.due("between(0, 0, -1)", x.between(0, 0, -1), -1);
        check.due("between(10, 0, 0)", x.between(10, 0, 0), -1);
        check.due("between(-1, 0, 0)", x.between(-1, 0, 0), -1);
        check.due("nothing came", x.count(1), 10);
        Check.lay(x, "k2;r0;g0,0,0;g0,1,0;g0,2,0;g0,3,0;g0,4,0;g0,5,0;g0,6,0;g0,7,0;g0,8,0;");
        check.due("the ninth key", x.key(9, 0, 0), 999999999);
        check.due("its figures", x.key(9, 0, 1), 9);
        check.due("none behind, 0", x.between(0, 9, 0), -4);
        check.due("none behind, 1", x.between(0, 9, 1), -4);
        check.due("none behind, 2", x.between(0, 9, 2), -1);
        check.due("one ahead of it", x.between(0, 8, 0), 999999998);
        x.cut(8);
        check.due("one that was cut is free", x.between(0, 7, 0), 99999999);
        check.due("its figures", x.between(0, 7, 1), 8);
        LabelTree y = new LabelTree();
        for (int v = 10; v < 24; v++) {
            y.grow(9, 0, 0);
        }
        check.due("full, but were it now", y.between(0, 0, 0), 1);
    }

    private static void ahead() {
        check.promise(15, "ahead");
        LabelTree x = new LabelTree();
        int[] order = {0, 7, 1, 4, 5, 3, 6, 2, 8, 9};
        for (int i = 0; i < 10; i++) {
            for (int j = 0; j < 10; j++) {
                check.due("ahead(" + order[i] + ", " + order[j] + ")", x.ahead(order[i], order[j]), i < j ? 1 : 0);
            }
        }
        dueBadPairs(x::ahead, "ahead");
        x.cut(4);
        check.due("ahead(4, 5), cut", x.ahead(4, 5), -1);
    }

    private interface Pair {
        int of(int v, int w);
    }

    private static void dueBadPairs(Pair call, String name) {
        int[] bad = {-1, 10, 24, 32, Integer.MAX_VALUE, Integer.MIN_VALUE};
        for (int b : bad) {
            check.due(name + "(0, " + b + ")", call.of(0, b), -1);
            check.due(name + "(" + b + ", 0)", call.of(b, 0), -1);
            check.due(name + "(" + b + ", " + b + ")", call.of(b, b), -1);
        }
    }

    private static void above() {
        check.promise(16, "above");
        LabelTree x = new LabelTree();
        int[] bits = {0x3fe, 0x30, 0x300, 0x40, 0, 0, 0, 0, 0x200, 0};
        for (int v = 0; v < 10; v++) {
            for (int w = 0; w < 10; w++) {
                check.due("above(" + v + ", " + w + ")", x.above(v, w), bits[v] >> w & 1);
            }
        }
        dueBadPairs(x::above, "above");
        x.cut(9);
        check.due("above(8, 9), cut", x.above(8, 9), -1);
    }

    private static void meet() {
        check.promise(17, "meet");
        LabelTree x = new LabelTree();
        int[][] want = {
            {4, 5, 1}, {5, 4, 1}, {4, 1, 1}, {1, 4, 1}, {4, 4, 4}, {4, 6, 0}, {9, 2, 2}, {2, 9, 2}, {9, 8, 8}, {9, 9, 9},
            {0, 9, 0}, {9, 0, 0}, {0, 0, 0}, {7, 9, 0}, {9, 7, 0}, {3, 6, 3}, {6, 2, 0}};
        for (int[] w : want) {
            check.due("meet(" + w[0] + ", " + w[1] + ")", x.meet(w[0], w[1]), w[2]);
        }
        dueBadPairs(x::meet, "meet");
        x.cut(6);
        check.due("meet(6, 3), cut", x.meet(6, 3), -1);
    }

    private static void keep() {
        check.promise(24, "keep");
        LabelTree x = new LabelTree();
        check.due("keep()", x.keep(), 1);
        x.cut(1);
        check.due("keep() again", x.keep(), 2);
        check.due("keep(), full", x.keep(), -3);
        check.due("count(7)", x.count(7), 2);
        check.due("what can be undone stays", x.count(6), 1);
        check.due("undo()", x.undo(), 0);
        check.due("keep(), full still", x.keep(), -3);
        x.back();
        check.due("nodes as kept last", x.count(0), 7);
        check.due("keep() behind back()", x.keep(), 2);
    }

    private static void back() {
        check.promise(25, "back");
        LabelTree x = new LabelTree();
        check.due("back() of nothing", x.back(), -2);
        x.grow(9, 0, 2);
        x.keep();
        String first = Check.labels(x);
        x.undo();
        x.grow(0, 0, 3);
        x.tag(1, 5);
        x.keep();
        String second = Check.labels(x);
        x.cut(2);
        x.grow(0, 1, 1);
        check.due("back()", x.back(), 1);
        check.dueText("labels", Check.labels(x), second);
        check.due("came", x.count(1), 11);
        check.due("the next number", x.grow(0, 0, 0), 11);
        check.due("back()", x.back(), 0);
        check.dueText("labels", Check.labels(x), first);
        check.due("parent of 10", x.node(10, 1), 9);
        check.due("back() of nothing more", x.back(), -2);
        check.dueText("labels stay", Check.labels(x), first);
    }

    private static void backForgets() {
        LabelTree x = new LabelTree();
        Check.pattern(x, "*");
        x.tag(0, 1);
        x.keep();
        x.cut(2);
        check.due("matches", x.matches(), 7);
        check.due("count(6)", x.count(6), 2);
        check.due("back()", x.back(), 0);
        check.due("nothing is undone then", x.undo(), -2);
        check.due("count(6)", x.count(6), 0);
        check.due("the pattern stays", x.count(2), 1);
        check.due("matches as kept", x.matches(), 10);
        x.tag(0, 2);
        check.due("undo() of what came since", x.undo(), 0);
        check.due("tag as kept", x.node(0, 0), 1);
    }

    private static void count() {
        check.promise(26, "count");
        LabelTree x = new LabelTree();
        check.due("count(-1)", x.count(-1), -1);
        check.due("count(9)", x.count(9), -1);
        check.due("count(least)", x.count(Integer.MIN_VALUE), -1);
        Check.lay(x, "k3;r0;g0,0,0;g0,0,0;g0,0,0;g1,0,0;g4,0,0;");
        Check.pattern(x, "a[/a]:*");
        x.keep();
        x.cut(4);
        x.grow(1, 0, 0);
        int[] want = {5, 7, 3, 2, 2, 3, 2, 1, 7};
        for (int what = 0; what < want.length; what++) {
            check.due("count(" + what + ")", x.count(what), want[what]);
        }
        x.cut(3);
        check.due("count(3) of those that are there", x.count(3), 1);
        x.cut(1);
        check.due("count(4) of those that are there", x.count(4), 1);
        x.cut(2);
        check.due("count(3) of a root", x.count(3), 0);
        check.due("count(4) of a root", x.count(4), 0);
        check.due("count(0) of a root", x.count(0), 1);
        check.due("count(1) of a root", x.count(1), 7);
    }
}
