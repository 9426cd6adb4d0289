/** The sentences that bound KEYS and LABELS, each on both sides (promises 8, 10 and 14). */
public final class KeyBoundsTest {
    private static final Check check = new Check();
    private static final int MIDDLE = 0, LOW = 1, HIGH = 2, NEAR = 3;

    public static void main(String[] args) {
        everyGapOfOneFigure();
        severalByKind();
        oneOrTwo();
        fewestFigures();
        lastNotZero();
        oneToNineFigures();
        missingEnds();
        betweenBothSides();
        betweenIsWhatGrows();
        labels();
        labelsNeverChange();
        keyBothSides();
        check.end();
    }

    private static void dueBetween(LabelTree x, int p, int place, int figures, int howMany) {
        check.due("between(" + p + ", " + place + ", 0)", x.between(p, place, 0), figures);
        check.due("between(" + p + ", " + place + ", 1)", x.between(p, place, 1), howMany);
    }

    private static void dueKey(LabelTree x, int v, int i, int figures, int howMany) {
        check.due("key(" + v + ", " + i + ", 0)", x.key(v, i, 0), figures);
        check.due("key(" + v + ", " + i + ", 1)", x.key(v, i, 1), howMany);
    }

    /** A root with children of the keys .1 to .9: whatever the kind, gaps are filled while one figure is enough. */
    private static LabelTree nine(int kind) {
        LabelTree x = Check.laid("k" + kind + ";r0;");
        int place = 0;
        while (place <= x.node(0, 2)) {
            if (x.between(0, place, 1) == 1) {
                x.grow(0, place, 0);
            } else {
                place++;
            }
        }
        return x;
    }

    private static int byKind(int kind, int least, int greatest) {
        switch (kind) {
            case MIDDLE: return (least + greatest) / 2;
            case LOW: return least;
            case HIGH: return greatest;
            default: return least < greatest ? least + 1 : least;
        }
    }

    private static void everyGapOfOneFigure() {
        check.sentence("A NODE put in between two children (or ahead of all, behind all: 0, 1 stand for what is missing) has a KEY"
                + " between theirs: of fewest figures; of these, if there are several, by the KIND:");
        for (int kind = MIDDLE; kind <= NEAR; kind++) {
            for (int low = 0; low <= 9; low++) {
                for (int high = low + 1; high <= 10; high++) {
                    LabelTree x = nine(kind);
                    check.due("nine children by kind " + kind, x.node(0, 2), 9);
                    for (int i = low; i < high - 1; i++) {
                        x.cut(x.child(0, low));
                    }
                    boolean one = high - low > 1;
                    int key = one ? byKind(kind, low + 1, high - 1) : byKind(kind, 10 * low + 1, 10 * low + 9);
                    dueBetween(x, 0, low, key, one ? 1 : 2);
                }
            }
        }
    }

    private static void severalByKind() {
        check.sentence("MIDDLE the middle one (the lower one of two), LOW what MIDDLE would take, were there the least one alone,"
                + " HIGH likewise the greatest one, NEAR the one behind what LOW takes, if there is one, else that.");
        // Of nine, of four, of two, of one: each time ahead of or behind the one that came last.
        LabelTree middle = Check.laid("k0;r0;g0,0,0;g0,0,0;g0,0,0;g0,2,0;g0,3,0;");
        int[] middles = {5, 2, 1, 3, 4};
        LabelTree low = Check.laid("k1;r0;g0,0,0;g0,1,0;g0,2,0;g0,3,0;g0,4,0;");
        int[] lows = {1, 2, 3, 4, 5};
        LabelTree high = Check.laid("k2;r0;g0,0,0;g0,0,0;g0,0,0;g0,0,0;g0,0,0;");
        int[] highs = {9, 8, 7, 6, 5};
        LabelTree near = Check.laid("k3;r0;g0,0,0;g0,1,0;g0,2,0;g0,3,0;g0,4,0;");
        int[] nears = {2, 4, 6, 8, 9};
        for (int i = 0; i < 5; i++) {
            dueKey(middle, i + 1, 0, middles[i], 1);
            dueKey(low, i + 1, 0, lows[i], 1);
            dueKey(high, i + 1, 0, highs[i], 1);
            dueKey(near, i + 1, 0, nears[i], 1);
        }
    }

    private static void oneOrTwo() {
        check.sentence("NEAR the one behind what LOW takes, if there is one, else that");
        LabelTree near = nine(NEAR);
        near.cut(near.child(0, 7));
        dueBetween(near, 0, 7, 8, 1);
        near.cut(near.child(0, 6));
        dueBetween(near, 0, 6, 8, 1);
        near.cut(near.child(0, 5));
        dueBetween(near, 0, 5, 7, 1);
        check.sentence("MIDDLE the middle one (the lower one of two)");
        LabelTree middle = nine(MIDDLE);
        middle.cut(middle.child(0, 7));
        dueBetween(middle, 0, 7, 8, 1);
        middle.cut(middle.child(0, 6));
        dueBetween(middle, 0, 6, 7, 1);
        middle.cut(middle.child(0, 5));
        dueBetween(middle, 0, 5, 7, 1);
        middle.cut(middle.child(0, 4));
        dueBetween(middle, 0, 4, 6, 1);
    }

    private static void fewestFigures() {
        check.sentence("of fewest figures");
        // .1, .11, .12, .2: what is cut leaves room for fewer figures than those beside it have.
        LabelTree x = Check.laid("k1;r0;g0,0,0;g0,1,0;g0,1,0;g0,2,0;");
        dueKey(x, 3, 0, 11, 2);
        dueKey(x, 4, 0, 12, 2);
        dueBetween(x, 0, 1, 101, 3);
        dueBetween(x, 0, 2, 111, 3);
        dueBetween(x, 0, 3, 13, 2);
        dueBetween(x, 0, 4, 3, 1);
        x.cut(4);
        dueBetween(x, 0, 2, 12, 2);
        x.cut(2);
        dueBetween(x, 0, 2, 2, 1);
        x.cut(1);
        dueBetween(x, 0, 0, 1, 1);
        dueBetween(x, 0, 1, 2, 1);
        // .9 and .99: behind .99 there is no key of two figures, ahead of it there is.
        LabelTree y = Check.laid("k2;r0;g0,0,0;g0,1,0;");
        dueKey(y, 2, 0, 99, 2);
        dueBetween(y, 0, 1, 98, 2);
        dueBetween(y, 0, 2, 999, 3);
        y.cut(1);
        dueBetween(y, 0, 0, 9, 1);
        dueBetween(y, 0, 1, 999, 3);
    }

    private static void lastNotZero() {
        check.sentence("A KEY is 1 to 9 figures behind a point, the last one not 0: a number between 0 and 1.");
        // Behind .9 (.99, .98, ..) and ahead of .1 (.01, .02, ..), and between .1 and .11: never .90, .10, .110.
        for (int kind = MIDDLE; kind <= NEAR; kind++) {
            LabelTree x = nine(kind);
            int place = kind == HIGH ? 9 : 0;
            for (int i = 0; i < 13; i++) {
                int v = x.grow(0, place, 0);
                check.due("kind " + kind + ", grow", v, 10 + i);
                check.due("kind " + kind + ", the last figure is not 0", x.key(v, 0, 0) % 10 == 0 ? 1 : 0, 0);
                place = kind == HIGH ? place + 1 - i % 2 : i % 2;
            }
            check.dueText("the order is by keys", keysSorted(x) ? "yes" : "no", "yes");
        }
        LabelTree y = Check.laid("k1;r0;g0,0,0;g0,1,0;g0,1,0;g0,1,0;");
        dueKey(y, 4, 0, 101, 3);
        dueBetween(y, 0, 1, 1001, 4);
    }

    private static boolean keysSorted(LabelTree x) {
        double last = 0;
        for (int i = 0; i < x.node(0, 2); i++) {
            int v = x.child(0, i);
            double key = x.key(v, 0, 0) / Math.pow(10, x.key(v, 0, 1));
            if (key <= last || key >= 1) {
                return false;
            }
            last = key;
        }
        return true;
    }

    private static void oneToNineFigures() {
        check.sentence("There is none, if it would have more than 9 figures.");
        LabelTree low = Check.laid("k1;r0;");
        LabelTree high = Check.laid("k2;r0;");
        int nines = 0;
        for (int figures = 1; figures <= 9; figures++) {
            nines = 10 * nines + 9;
            dueBetween(low, 0, 0, 1, figures);
            dueBetween(high, 0, figures - 1, nines, figures);
            low.grow(0, 0, 0);
            high.grow(0, figures - 1, 0);
            dueKey(low, figures, 0, 1, figures);
            dueKey(high, figures, 0, nines, figures);
        }
        dueBetween(low, 0, 0, LabelTree.NONE, LabelTree.NONE);
        dueBetween(high, 0, 9, LabelTree.NONE, LabelTree.NONE);
        check.due("grow, low", low.grow(0, 0, 0), LabelTree.NO);
        check.due("grow, high", high.grow(0, 9, 0), LabelTree.NO);
        // Between two children: .000000001 and .00000001 leave nine figures, .000000001 and .000000002 none.
        dueBetween(low, 0, 1, 2, 9);
        check.due("grow behind", low.grow(0, 1, 0), 10);
        dueKey(low, 10, 0, 2, 9);
        dueBetween(low, 0, 1, LabelTree.NONE, LabelTree.NONE);
        check.due("grow between", low.grow(0, 1, 0), LabelTree.NO);
        dueBetween(low, 0, 2, 3, 9);
        dueBetween(high, 0, 8, 999999998, 9);
        check.due("grow ahead", high.grow(0, 8, 0), 10);
        dueBetween(high, 0, 9, LabelTree.NONE, LabelTree.NONE);
        check.due("grow between", high.grow(0, 9, 0), LabelTree.NO);
        nearRunsOut();
    }

    private static void nearRunsOut() {
        LabelTree x = Check.laid("k3;r0;");
        for (int figures = 1; figures <= 9; figures++) {
            check.due("grow to 2", x.grow(0, 0, 0), 2 * figures - 1);
            dueKey(x, 2 * figures - 1, 0, 2, figures);
            check.due("grow to 1", x.grow(0, 0, 0), 2 * figures);
            dueKey(x, 2 * figures, 0, 1, figures);
        }
        dueBetween(x, 0, 0, LabelTree.NONE, LabelTree.NONE);
        check.due("grow ahead", x.grow(0, 0, 0), LabelTree.NO);
        check.due("grow between .000000001 and .000000002", x.grow(0, 1, 0), LabelTree.NO);
        check.due("grow behind .000000002", x.grow(0, 2, 0), 19);
        dueKey(x, 19, 0, 4, 9);
    }

    private static void missingEnds() {
        check.sentence("(or ahead of all, behind all: 0, 1 stand for what is missing)");
        int[] alone = {5, 1, 9, 2};
        int[] ahead = {2, 1, 8, 1};
        int[] aheadFigures = {1, 2, 1, 1};
        int[] behind = {7, 2, 99, 4};
        int[] behindFigures = {1, 1, 2, 1};
        for (int kind = MIDDLE; kind <= NEAR; kind++) {
            LabelTree x = Check.laid("k" + kind + ";r0;g0,0,0;");
            dueBetween(x, 1, 0, alone[kind], 1);
            dueBetween(x, 0, 0, ahead[kind], aheadFigures[kind]);
            dueBetween(x, 0, 1, behind[kind], behindFigures[kind]);
        }
    }

    private static void betweenBothSides() {
        check.sentence("Of a KEY put in below p at a place, were it now: its figures (what = 0), how many (1). NONE: there is none;"
                + " BAD.");
        LabelTree x = new LabelTree();
        dueBetween(x, 0, 4, 8, 1);
        dueBetween(x, 0, 5, LabelTree.BAD, LabelTree.BAD);
        dueBetween(x, 0, 0, 1, 1);
        dueBetween(x, 0, -1, LabelTree.BAD, LabelTree.BAD);
        dueBetween(x, 9, 0, 5, 1);
        dueBetween(x, 9, 1, LabelTree.BAD, LabelTree.BAD);
        dueBetween(x, 10, 0, LabelTree.BAD, LabelTree.BAD);
        dueBetween(x, -1, 0, LabelTree.BAD, LabelTree.BAD);
        dueBetween(x, 0, Integer.MAX_VALUE, LabelTree.BAD, LabelTree.BAD);
        dueBetween(x, 0, Integer.MIN_VALUE, LabelTree.BAD, LabelTree.BAD);
        check.due("what = -1", x.between(0, 0, -1), LabelTree.BAD);
        check.due("what = 2", x.between(0, 0, 2), LabelTree.BAD);
        x.cut(7);
        dueBetween(x, 7, 0, LabelTree.BAD, LabelTree.BAD);
        dueBetween(x, 0, 3, 8, 1);
        dueBetween(x, 0, 4, LabelTree.BAD, LabelTree.BAD);
        x.undo();
        dueBetween(x, 7, 0, 5, 1);
        dueBetween(x, 0, 4, 8, 1);
        LabelTree y = Check.laid("k1;r0;g0,0,0;g0,0,0;g0,0,0;g0,0,0;g0,0,0;g0,0,0;g0,0,0;g0,0,0;g0,0,0;");
        check.due("none, what = 0", y.between(0, 0, 0), LabelTree.NONE);
        check.due("none, what = 1", y.between(0, 0, 1), LabelTree.NONE);
        check.due("none, what = 2", y.between(0, 0, 2), LabelTree.BAD);
        check.due("none, what = -1", y.between(0, 0, -1), LabelTree.BAD);
        y.cut(9);
        dueBetween(y, 0, 0, 1, 9);
    }

    private static void betweenIsWhatGrows() {
        for (int kind = MIDDLE; kind <= NEAR; kind++) {
            LabelTree x = Check.laid("k" + kind + ";r0;");
            for (int i = 1; x.count(1) < 24; i++) {
                int place = i * 7 % (x.node(0, 2) + 1);
                int figures = x.between(0, place, 0);
                int howMany = x.between(0, place, 1);
                int v = x.count(1);
                check.due("grow at " + place, x.grow(0, place, 0), figures < 0 ? LabelTree.NO : v);
                if (figures > 0) {
                    dueKey(x, v, 0, figures, howMany);
                    check.due("at its place", x.child(0, place), v);
                }
            }
            check.due("a key behind all, were it now", x.between(0, 23, 1) > 0 ? 1 : 0, 1);
            check.due("but it can't come", x.grow(0, 23, 0), LabelTree.FULL);
        }
    }

    private static void labels() {
        check.sentence("The LABEL of a NODE is the KEYS from below the root down to its own (the root's is of none). It never changes.");
        LabelTree x = new LabelTree();
        check.due("KEYS of the root", x.node(0, 3), 0);
        check.due("none of the root", x.key(0, 0, 0), LabelTree.NONE);
        check.due("KEYS of a child", x.node(2, 3), 1);
        dueKey(x, 2, 0, 7, 1);
        check.due("KEYS of 9", x.node(9, 3), 3);
        dueKey(x, 9, 0, 7, 1);
        dueKey(x, 9, 1, 5, 1);
        dueKey(x, 9, 2, 5, 1);
        LabelTree y = Check.laid("r0;");
        for (int v = 1; v < 24; v++) {
            y.grow(v - 1, 0, 0);
        }
        check.due("the most KEYS", y.node(23, 3), 23);
        dueKey(y, 23, 22, 5, 1);
        check.due("not so many", y.key(23, 23, 0), LabelTree.NONE);
        check.due("count(4)", y.count(4), 23);
    }

    private static void labelsNeverChange() {
        LabelTree x = new LabelTree();
        x.grow(0, 2, 0);
        x.grow(0, 2, 0);
        x.grow(0, 4, 0);
        x.cut(7);
        x.tag(2, 0);
        x.grow(2, 0, 1);
        x.cut(3);
        x.grow(0, 0, 5);
        dueKey(x, 1, 0, 5, 1);
        dueKey(x, 4, 1, 5, 1);
        dueKey(x, 5, 1, 7, 1);
        dueKey(x, 2, 0, 7, 1);
        dueKey(x, 8, 1, 5, 1);
        dueKey(x, 9, 2, 5, 1);
        dueKey(x, 10, 0, 55, 2);
        dueKey(x, 11, 0, 52, 2);
        check.dueText("the order", Check.order(x), "0 14 1 4 5 11 10 12 2 13 8 9");
    }

    private static void keyBothSides() {
        check.sentence("Of the i-th KEY of a LABEL: its figures (what = 0), how many (1). NONE: not so many; BAD (below 0).");
        LabelTree x = new LabelTree();
        for (int v = 0; v < 10; v++) {
            int size = x.node(v, 3);
            for (int what = 0; what <= 1; what++) {
                check.due("the last key of " + v, x.key(v, size - 1, what) > 0 ? 1 : 0, size > 0 ? 1 : 0);
                check.due("one more of " + v, x.key(v, size, what), LabelTree.NONE);
                check.due("the most of " + v, x.key(v, Integer.MAX_VALUE, what), LabelTree.NONE);
                check.due("below 0 of " + v, x.key(v, -1, what), LabelTree.BAD);
                check.due("the least of " + v, x.key(v, Integer.MIN_VALUE, what), LabelTree.BAD);
            }
            check.due("what = -1 of " + v, x.key(v, 0, -1), LabelTree.BAD);
            check.due("what = 2 of " + v, x.key(v, 0, 2), LabelTree.BAD);
        }
        int[] bad = {-1, 10, 24, 32, Integer.MIN_VALUE, Integer.MAX_VALUE};
        for (int v : bad) {
            check.due("key(" + v + ", 0, 0)", x.key(v, 0, 0), LabelTree.BAD);
            check.due("key(" + v + ", 99, 0)", x.key(v, 99, 0), LabelTree.BAD);
        }
        // .01 has the figures 0 and 1: its number is 1, of two figures.
        LabelTree y = Check.laid("k1;r0;g0,0,0;g0,0,0;");
        dueKey(y, 2, 0, 1, 2);
    }
}
