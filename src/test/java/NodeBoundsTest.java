/** The sentences that bound NODES, acts, what LABELS tell, trees kept and counts (promises 6, 7, 9 to 17, 24 to 26). */
public final class NodeBoundsTest {
    private static final Check check = new Check();
    private static final int LEAST = Integer.MIN_VALUE, MOST = Integer.MAX_VALUE;

    public static void main(String[] args) {
        suchAsThereAre();
        nodeWhat();
        parentsOfNodes();
        children();
        order();
        growNumbers();
        growFull();
        growNo();
        goneForGood();
        cutRoot();
        cutAllBelow();
        others();
        tags();
        undoLatest();
        undoEight();
        undoCuts();
        undoOnlyActs();
        aheadOf();
        aboveOf();
        meetOf();
        keepTwo();
        backLast();
        backForgets();
        countNumbers();
        countEach();
        check.end();
    }

    private interface OfNode {
        long of(LabelTree x, int v);
    }

    private static final String[] NAMES = {"node", "child", "key", "grow", "cut", "tag", "between", "ahead(v, 0)", "ahead(0, v)",
        "above(v, 0)", "above(0, v)", "meet(v, 0)", "meet(0, v)", "puts"};

    /** Every call that takes a node, with all else right. */
    private static final OfNode[] CALLS = {
        (x, v) -> x.node(v, 0), (x, v) -> x.child(v, 0), (x, v) -> x.key(v, 0, 0), (x, v) -> x.grow(v, 0, 0), (x, v) -> x.cut(v),
        (x, v) -> x.tag(v, 0), (x, v) -> x.between(v, 0, 0), (x, v) -> x.ahead(v, 0), (x, v) -> x.ahead(0, v),
        (x, v) -> x.above(v, 0), (x, v) -> x.above(0, v), (x, v) -> x.meet(v, 0), (x, v) -> x.meet(0, v),
        (x, v) -> x.puts(0, v)};

    private static LabelTree matched() {
        LabelTree x = new LabelTree();
        Check.pattern(x, "*");
        return x;
    }

    private static LabelTree full() {
        LabelTree x = matched();
        for (int v = 10; v < 24; v++) {
            x.grow(v - 1, 0, 0);
        }
        return x;
    }

    private static void dueBad(LabelTree x, int i, int v) {
        check.due(NAMES[i] + " of " + v, CALLS[i].of(x, v), LabelTree.BAD);
    }

    private static void dueThere(LabelTree x, int i, int v) {
        long got = CALLS[i].of(x, v);
        check.due(NAMES[i] + " of " + v + " is told", got != LabelTree.BAD ? 1 : 0, 1);
    }

    private static void suchAsThereAre() {
        check.sentence("BAD: a number is none that is told (NODES: such as there are).");
        int[] never = {-1, -2, 24, 25, 31, 32, 33, 41, 63, 64, 256, LEAST, LEAST + 1, MOST};
        for (int i = 0; i < CALLS.length; i++) {
            for (int v : never) {
                dueBad(matched(), i, v);
                dueBad(full(), i, v);
            }
            dueThere(matched(), i, 0);
            dueThere(matched(), i, 9);
            dueBad(matched(), i, 10);
            dueBad(matched(), i, 23);
            dueThere(full(), i, 23);
            LabelTree grown = matched();
            grown.grow(0, 0, 1);
            dueThere(grown, i, 10);
            LabelTree undone = matched();
            undone.grow(0, 0, 1);
            undone.undo();
            dueBad(undone, i, 10);
            LabelTree cut = matched();
            cut.cut(8);
            dueBad(cut, i, 8);
            dueBad(cut, i, 9);
            dueThere(cut, i, 2);
            LabelTree again = matched();
            again.cut(8);
            again.undo();
            dueThere(again, i, 9);
            LabelTree laid = Check.laid("r0;");
            Check.pattern(laid, "*");
            dueThere(laid, i, 0);
            LabelTree alone = Check.laid("r0;");
            Check.pattern(alone, "*");
            dueBad(alone, i, 1);
        }
    }

    private static void nodeWhat() {
        check.sentence("Of a NODE: TAG (what = 0), its parent (1; NONE), how many children (2), how many KEYS its LABEL has (3), how"
                + " many are ahead of it in the ORDER (4), how many are below (5). BAD.");
        LabelTree x = new LabelTree();
        int[] last = {3, 8, 0, 3, 9, 0};
        int[] root = {0, LabelTree.NONE, 4, 0, 0, 9};
        for (int what = 0; what <= 5; what++) {
            check.due("node(9, " + what + ")", x.node(9, what), last[what]);
            check.due("node(0, " + what + ")", x.node(0, what), root[what]);
        }
        int[] bad = {-1, 6, 7, LEAST, MOST};
        for (int what : bad) {
            check.due("node(9, " + what + ")", x.node(9, what), LabelTree.BAD);
            check.due("node(0, " + what + ")", x.node(0, what), LabelTree.BAD);
            check.due("node(10, " + what + ")", x.node(10, what), LabelTree.BAD);
        }
        LabelTree y = Check.laid("r5;");
        int[] alone = {5, LabelTree.NONE, 0, 0, 0, 0};
        for (int what = 0; what <= 5; what++) {
            check.due("a root alone, node(0, " + what + ")", y.node(0, what), alone[what]);
        }
    }

    private static void parentsOfNodes() {
        check.sentence("its parent (1; NONE)");
        LabelTree x = new LabelTree();
        check.due("of the root", x.node(0, 1), LabelTree.NONE);
        check.due("of a child of the root", x.node(1, 1), 0);
        check.due("of a child of that", x.node(4, 1), 1);
        x.grow(4, 0, 0);
        check.due("of one put in", x.node(10, 1), 4);
        LabelTree y = full();
        check.due("of the last one", y.node(23, 1), 22);
    }

    private static void children() {
        check.sentence("The i-th child of a NODE. NONE: not so many; BAD (below 0).");
        LabelTree x = new LabelTree();
        int[] kids = {4, 2, 1, 1, 0, 0, 0, 0, 1, 0};
        for (int v = 0; v < 10; v++) {
            for (int i = 0; i < kids[v]; i++) {
                check.due("child " + i + " of " + v + " is one", x.node(x.child(v, i), 1), v);
            }
            check.due("child(" + v + ", " + kids[v] + ")", x.child(v, kids[v]), LabelTree.NONE);
            check.due("child(" + v + ", most)", x.child(v, MOST), LabelTree.NONE);
            check.due("child(" + v + ", -1)", x.child(v, -1), LabelTree.BAD);
            check.due("child(" + v + ", least)", x.child(v, LEAST), LabelTree.BAD);
        }
        check.due("child(10, 0)", x.child(10, 0), LabelTree.BAD);
        check.due("child(10, -1)", x.child(10, -1), LabelTree.BAD);
        LabelTree y = Check.laid("r0;");
        check.due("none at all", y.child(0, 0), LabelTree.NONE);
        for (int i = 0; i < 23; i++) {
            y.grow(0, i, 0);
        }
        check.due("the last of 23", y.child(0, 22), 23);
        check.due("one more", y.child(0, 23), LabelTree.NONE);
        check.due("still more", y.child(0, 24), LabelTree.NONE);
    }

    private static void order() {
        check.sentence("The k-th in the ORDER. NONE: not so many; BAD (below 0).");
        LabelTree x = new LabelTree();
        check.due("at(0)", x.at(0), 0);
        check.due("at(9)", x.at(9), 9);
        check.due("at(10)", x.at(10), LabelTree.NONE);
        check.due("at(most)", x.at(MOST), LabelTree.NONE);
        check.due("at(-1)", x.at(-1), LabelTree.BAD);
        check.due("at(least)", x.at(LEAST), LabelTree.BAD);
        LabelTree y = full();
        check.due("at(23)", y.at(23), 23);
        check.due("at(24)", y.at(24), LabelTree.NONE);
        LabelTree z = Check.laid("r0;");
        check.due("a root alone, at(0)", z.at(0), 0);
        check.due("a root alone, at(1)", z.at(1), LabelTree.NONE);
        check.sentence("The ORDER: the root, then its children by KEYS, each with all below it ahead of the next one.");
        check.dueText("the order", Check.order(x), "0 7 1 4 5 3 6 2 8 9");
        for (int k = 0; k < 10; k++) {
            check.due("how many are ahead", x.node(x.at(k), 4), k);
        }
    }

    private static void growNumbers() {
        check.sentence("Put in below p at a place, of a TAG: its number. BAD; FULL: 24 came so far; NO: there is no KEY.");
        int[] kids = {4, 2, 1, 1, 0, 0, 0, 0, 1, 0};
        for (int p = 0; p < 10; p++) {
            check.due("grow(" + p + ", -1, 0)", new LabelTree().grow(p, -1, 0), LabelTree.BAD);
            check.due("grow(" + p + ", 0, 0)", new LabelTree().grow(p, 0, 0), 10);
            check.due("grow(" + p + ", " + kids[p] + ", 0)", new LabelTree().grow(p, kids[p], 0), 10);
            check.due("grow(" + p + ", " + (kids[p] + 1) + ", 0)", new LabelTree().grow(p, kids[p] + 1, 0), LabelTree.BAD);
            check.due("grow(" + p + ", most, 0)", new LabelTree().grow(p, MOST, 0), LabelTree.BAD);
            check.due("grow(" + p + ", least, 0)", new LabelTree().grow(p, LEAST, 0), LabelTree.BAD);
        }
        LabelTree x = new LabelTree();
        int[] bad = {-1, 6, 7, LEAST, MOST};
        for (int tag : bad) {
            check.due("grow(0, 0, " + tag + ")", x.grow(0, 0, tag), LabelTree.BAD);
        }
        for (int tag = 0; tag <= 5; tag++) {
            check.due("grow(0, 0, " + tag + ")", x.grow(0, 0, tag), 10 + tag);
            check.due("its tag", x.node(10 + tag, 0), tag);
            check.due("its place", x.child(0, 0), 10 + tag);
        }
        x.cut(7);
        check.due("grow at a place that is gone", x.grow(0, 10, 0), LabelTree.BAD);
        check.due("grow at the last place", x.grow(0, 9, 0), 16);
    }

    private static void growFull() {
        check.sentence("FULL: 24 came so far");
        LabelTree x = new LabelTree();
        for (int v = 10; v < 23; v++) {
            x.grow(v - 1, 0, 0);
        }
        check.due("23 came", x.count(1), 23);
        check.due("the 24th", x.grow(22, 0, 5), 23);
        check.due("the 25th", x.grow(23, 0, 5), LabelTree.FULL);
        check.due("24 came", x.count(1), 24);
        check.due("a wrong place", x.grow(23, 1, 5), LabelTree.BAD);
        check.due("a wrong tag", x.grow(23, 0, 6), LabelTree.BAD);
        check.due("a wrong node", x.grow(24, 0, 5), LabelTree.BAD);
        check.due("cut 14", x.cut(10), 14);
        check.due("there is room, but 24 came", x.grow(0, 0, 0), LabelTree.FULL);
        check.due("undo of the cut", x.undo(), 7);
        check.due("24 came still", x.grow(0, 0, 0), LabelTree.FULL);
        check.due("undo of the 24th", x.undo(), 6);
        check.due("23 came", x.count(1), 23);
        check.due("the 24th again", x.grow(0, 0, 0), 23);
        LabelTree y = Check.laid("r0;g0,0,0;g1,0,0;g2,0,0;g3,0,0;g4,0,0;g5,0,0;g6,0,0;g7,0,0;g8,0,0;g9,0,0;g10,0,0;g11,0,0;"
                + "g12,0,0;g13,0,0;g14,0,0;g15,0,0;g16,0,0;g17,0,0;g18,0,0;g19,0,0;g20,0,0;g21,0,0;g22,0,0;");
        check.due("24 by a text", y.count(1), 24);
        check.due("one more", y.grow(0, 0, 0), LabelTree.FULL);
    }

    private static void growNo() {
        check.sentence("NO: there is no KEY.");
        LabelTree x = Check.laid("k1;r0;");
        for (int v = 1; v <= 9; v++) {
            check.due("one of " + v + " figures", x.grow(0, 0, 0), v);
        }
        check.due("one of ten figures", x.grow(0, 0, 0), LabelTree.NO);
        check.due("a wrong tag", x.grow(0, 0, 6), LabelTree.BAD);
        check.due("that came", x.count(1), 10);
        check.due("below another", x.grow(9, 0, 0), 10);
        for (int v = 11; v < 24; v++) {
            x.grow(v - 1, 0, 0);
        }
        check.due("24 came and there is no KEY", x.grow(0, 0, 0), LabelTree.FULL);
    }

    private static void goneForGood() {
        check.sentence("one that is cut is gone for good");
        LabelTree x = new LabelTree();
        x.cut(9);
        check.due("the next one", x.grow(8, 0, 3), 10);
        check.due("with the key of the one that is gone", x.key(10, 2, 0), 5);
        check.due("which is not there", x.node(9, 0), LabelTree.BAD);
        x.cut(10);
        check.due("the next one", x.grow(8, 0, 3), 11);
        check.due("neither is there", x.node(10, 0), LabelTree.BAD);
        check.due("nodes", x.count(0), 10);
        check.due("that came", x.count(1), 12);
    }

    private static void cutRoot() {
        check.sentence("Cut: how many are gone. BAD; NO: it is the root.");
        LabelTree x = new LabelTree();
        check.due("cut(0)", x.cut(0), LabelTree.NO);
        check.due("cut(-1)", x.cut(-1), LabelTree.BAD);
        check.due("cut(10)", x.cut(10), LabelTree.BAD);
        check.due("cut(9)", x.cut(9), 1);
        check.due("cut(9) again", x.cut(9), LabelTree.BAD);
        check.due("cut(1)", x.cut(1), 3);
        LabelTree y = Check.laid("r0;");
        check.due("a root alone", y.cut(0), LabelTree.NO);
        LabelTree z = Check.laid("r0;g0,0,0;");
        check.due("all but the root", z.cut(1), 1);
        check.due("the root", z.cut(0), LabelTree.NO);
        check.due("nodes", z.count(0), 1);
    }

    private static void cutAllBelow() {
        check.sentence("Cut, a NODE (not the root) and all below are gone; others keep numbers and LABELS.");
        int[] gone = {0, 3, 3, 2, 1, 1, 1, 1, 2, 1};
        for (int v = 1; v < 10; v++) {
            LabelTree whole = new LabelTree();
            LabelTree x = new LabelTree();
            check.due("cut(" + v + ")", x.cut(v), gone[v]);
            check.due("nodes", x.count(0), 10 - gone[v]);
            for (int w = 0; w < 10; w++) {
                boolean left = w != v && whole.above(v, w) == 0;
                check.due("the tag of " + w, x.node(w, 0), left ? whole.node(w, 0) : LabelTree.BAD);
                check.due("the parent of " + w, x.node(w, 1), left ? whole.node(w, 1) : LabelTree.BAD);
                for (int i = 0; left && i < 4; i++) {
                    check.due("a key of " + w, x.key(w, i, 0), whole.key(w, i, 0));
                }
            }
        }
        LabelTree y = full();
        check.due("23 at once but for the others", y.cut(2), 17);
        LabelTree z = Check.laid("r0;");
        for (int v = 1; v < 24; v++) {
            z.grow(v - 1, 0, 0);
        }
        check.due("all 23", z.cut(1), 23);
        check.due("the root alone", z.count(0), 1);
    }

    private static void others() {
        LabelTree x = new LabelTree();
        x.cut(1);
        check.dueText("the order without 1", Check.order(x), "0 7 3 6 2 8 9");
        check.due("children of the root", x.node(0, 2), 3);
        check.due("below the root", x.node(0, 5), 6);
        check.due("a place that was beyond all", x.grow(0, 4, 0), LabelTree.BAD);
        check.due("between the two left", x.between(0, 1, 0), 4);
    }

    private static void tags() {
        check.sentence("Of another TAG: which it was. BAD; NO: it is.");
        LabelTree x = new LabelTree();
        int[] bad = {-1, 6, 7, LEAST, MOST};
        for (int tag : bad) {
            check.due("tag(9, " + tag + ")", x.tag(9, tag), LabelTree.BAD);
            check.due("tag(10, " + tag + ")", x.tag(10, tag), LabelTree.BAD);
        }
        check.due("it is", x.tag(9, 3), LabelTree.NO);
        int was = 3;
        for (int tag = 0; tag <= 5; tag++) {
            check.due("tag(9, " + tag + ")", x.tag(9, tag), was);
            check.due("tag(9, " + tag + ") again", x.tag(9, tag), LabelTree.NO);
            check.due("its tag", x.node(9, 0), tag);
            was = tag;
        }
        check.sentence("A TAG is another one.");
        check.due("the root's", x.tag(0, 5), 0);
        check.due("the root's again", x.tag(0, 5), LabelTree.NO);
        check.due("others stay", x.node(8, 0), 1);
        check.due("a node that is not there, of a tag that none has", x.tag(-1, -1), LabelTree.BAD);
    }

    private static void undoLatest() {
        check.sentence("UNDONE: how many more can be. NO.");
        LabelTree x = new LabelTree();
        check.due("none yet", x.undo(), LabelTree.NO);
        x.tag(0, 1);
        check.due("one", x.undo(), 0);
        check.due("none more", x.undo(), LabelTree.NO);
        check.due("its tag", x.node(0, 0), 0);
        check.sentence("UNDONE is the latest of these (what was cut is there again; the last 8 can be).");
        x.grow(0, 0, 0);
        x.tag(10, 1);
        x.cut(10);
        check.due("cut undone", x.undo(), 2);
        check.due("with its latest tag", x.node(10, 0), 1);
        check.due("tag undone", x.undo(), 1);
        check.due("with its first tag", x.node(10, 0), 0);
        check.due("grow undone", x.undo(), 0);
        check.due("not there", x.node(10, 0), LabelTree.BAD);
        check.due("nor did it come", x.count(1), 10);
        check.due("none more", x.undo(), LabelTree.NO);
        x.tag(9, 5);
        x.tag(8, 4);
        x.undo();
        check.due("the tag that it had", x.node(8, 0), 1);
        check.due("the one ahead stays", x.node(9, 0), 5);
        x.undo();
        check.due("the tag that it had, too", x.node(9, 0), 3);
        x.tag(0, 1);
        x.undo();
        x.tag(0, 2);
        check.due("what was undone can't be again", x.undo(), 0);
        check.due("its tag", x.node(0, 0), 0);
    }

    private static void undoEight() {
        check.sentence("the last 8 can be");
        for (int acts = 0; acts <= 10; acts++) {
            LabelTree x = new LabelTree();
            for (int i = 0; i < acts; i++) {
                x.grow(0, 0, 0);
            }
            int can = Math.min(acts, 8);
            check.due("that can be, behind " + acts, x.count(6), can);
            for (int i = can - 1; i >= 0; i--) {
                check.due("undo()", x.undo(), i);
            }
            check.due("one more", x.undo(), LabelTree.NO);
            check.due("that came", x.count(1), 10 + acts - can);
        }
        undoAllSorts();
        LabelTree y = new LabelTree();
        for (int i = 0; i < 9; i++) {
            y.tag(9, i % 2);
        }
        y.undo();
        check.due("seven more", y.count(6), 7);
        y.tag(9, 5);
        check.due("eight again", y.count(6), 8);
        for (int i = 0; i < 8; i++) {
            y.undo();
        }
        check.due("behind the first one", y.node(9, 0), 0);
        check.due("which can't be", y.undo(), LabelTree.NO);
    }

    /** Ten acts of all sorts, none of which is refused. */
    private static int act(LabelTree x, int i) {
        switch (i) {
            case 0: return x.grow(0, 0, 5);
            case 1: return x.tag(3, 0);
            case 2: return x.cut(4);
            case 3: return x.grow(9, 0, 5);
            case 4: return x.tag(9, 4);
            case 5: return x.cut(8);
            case 6: return x.grow(10, 0, 1);
            case 7: return x.tag(10, 2);
            case 8: return x.cut(2);
            default: return x.tag(3, 5);
        }
    }

    private static LabelTree acted(int acts) {
        LabelTree x = new LabelTree();
        for (int i = 0; i < acts; i++) {
            check.due("act " + i + " is not refused", act(x, i) >= 0 ? 1 : 0, 1);
        }
        return x;
    }

    private static void undoAllSorts() {
        for (int acts = 1; acts <= 10; acts++) {
            LabelTree x = acted(acts);
            check.due("acts that can be undone", x.count(6), Math.min(acts, 8));
            for (int left = acts - 1; left >= Math.max(acts - 8, 0); left--) {
                x.undo();
                check.dueText(acts + " acts, undone to " + left, tagsAndKeys(x), tagsAndKeys(acted(left)));
            }
            check.due("one more", x.undo(), LabelTree.NO);
        }
    }

    private static String tagsAndKeys(LabelTree x) {
        StringBuilder all = new StringBuilder();
        for (int v = 0; v < 14; v++) {
            all.append(x.node(v, 0)).append('/').append(x.key(v, x.node(v, 3) - 1, 0)).append(' ');
        }
        return all.toString();
    }

    private static void undoCuts() {
        check.sentence("what was cut is there again");
        String whole = Portrait.of(LabelTree::new).replaceAll("(?s)undone 1:.*", "");
        for (int v = 1; v < 10; v++) {
            int cut = v;
            check.dueText("cut " + v + " and undone", Portrait.of(() -> {
                LabelTree x = new LabelTree();
                x.cut(cut);
                x.undo();
                return x;
            }).replaceAll("(?s)undone 1:.*", ""), whole);
        }
        LabelTree y = new LabelTree();
        y.cut(9);
        y.cut(2);
        check.due("the outer cut undone", y.undo(), 1);
        check.due("what was cut ahead stays cut", y.node(9, 0), LabelTree.BAD);
        check.due("the inner one is there", y.node(8, 0), 1);
        check.due("the first cut undone", y.undo(), 0);
        check.due("all are there", y.node(9, 0), 3);
    }

    private static void undoOnlyActs() {
        LabelTree x = new LabelTree();
        Check.write(x, "*");
        x.pattern();
        x.wipe();
        x.keep();
        x.fault();
        x.cut(0);
        x.tag(0, 0);
        x.grow(0, 9, 0);
        x.lay();
        check.due("none of these can be undone", x.count(6), 0);
        check.due("undo()", x.undo(), LabelTree.NO);
        x.tag(0, 1);
        x.keep();
        Check.pattern(x, "a");
        check.due("undo() behind others", x.undo(), 0);
        check.due("the pattern stays", x.count(2), 1);
        check.due("kept stay", x.count(7), 2);
        check.due("its tag", x.node(0, 0), 0);
    }

    private static void aheadOf() {
        check.sentence("1 if v is ahead of w in the ORDER, else 0. BAD.");
        LabelTree x = new LabelTree();
        for (int k = 0; k < 10; k++) {
            int v = x.at(k);
            check.due("itself", x.ahead(v, v), 0);
            if (k > 0) {
                check.due("the one ahead", x.ahead(x.at(k - 1), v), 1);
                check.due("the one behind", x.ahead(v, x.at(k - 1)), 0);
            }
        }
    }

    private static void aboveOf() {
        check.sentence("One is ABOVE another one, if its LABEL is a shorter one with which the other one's begins.");
        LabelTree x = new LabelTree();
        for (int v = 0; v < 10; v++) {
            check.due("itself", x.above(v, v), 0);
            check.due("the root", x.above(0, v), v == 0 ? 0 : 1);
            check.due("the parent", x.above(x.node(v, 1), v), v == 0 ? LabelTree.BAD : 1);
            check.due("the other way", x.above(v, 0), 0);
        }
        check.sentence("1 if v is ABOVE w, else 0. BAD.");
        check.due("by two levels", x.above(2, 9), 1);
        check.due("the next one of the order, not below", x.above(1, 3), 0);
        check.due("the last one below", x.above(1, 5), 1);
        check.due("one level, another one", x.above(1, 2), 0);
        check.due("a shorter label, another one", x.above(7, 4), 0);
        // .5 and .55: the figures begin alike, the KEYS do not.
        x.grow(0, 2, 0);
        check.due("the key .55", x.key(10, 0, 0), 55);
        check.due("not above by figures", x.above(1, 10), 0);
    }

    private static void meetOf() {
        check.sentence("The NODE with the longest LABEL with which both begin (one of them, too). BAD.");
        LabelTree x = new LabelTree();
        for (int v = 0; v < 10; v++) {
            check.due("with itself", x.meet(v, v), v);
            check.due("with the root", x.meet(v, 0), 0);
            check.due("the root with it", x.meet(0, v), 0);
            if (v > 0) {
                check.due("with its parent", x.meet(v, x.node(v, 1)), x.node(v, 1));
                check.due("its parent with it", x.meet(x.node(v, 1), v), x.node(v, 1));
            }
        }
        check.due("two children of one", x.meet(4, 5), 1);
        check.due("by two levels", x.meet(9, 2), 2);
        check.due("only the root", x.meet(5, 6), 0);
    }

    private static void keepTwo() {
        check.sentence("KEPT: how many. FULL.");
        LabelTree x = new LabelTree();
        check.due("none kept", x.count(7), 0);
        check.due("the first", x.keep(), 1);
        check.due("one kept", x.count(7), 1);
        check.due("the second", x.keep(), 2);
        check.due("the third", x.keep(), LabelTree.FULL);
        check.due("two kept", x.count(7), 2);
        x.back();
        check.due("the second again", x.keep(), 2);
        check.due("the third again", x.keep(), LabelTree.FULL);
        check.sentence("KEPT is the tree as it stands: 2 at most.");
        LabelTree y = new LabelTree();
        y.keep();
        y.tag(0, 1);
        y.keep();
        y.tag(0, 2);
        check.due("refused", y.keep(), LabelTree.FULL);
        y.back();
        check.due("as kept second", y.node(0, 0), 1);
        y.back();
        check.due("as kept first", y.node(0, 0), 0);
    }

    private static void backLast() {
        check.sentence("As KEPT last: how many are left; nothing is UNDONE then (the PATTERN stays). NO.");
        LabelTree x = new LabelTree();
        check.due("none kept", x.back(), LabelTree.NO);
        x.keep();
        check.due("one kept", x.back(), 0);
        check.due("none left", x.back(), LabelTree.NO);
        x.keep();
        x.keep();
        check.due("two kept", x.back(), 1);
        check.due("one left", x.back(), 0);
        check.due("none left", x.back(), LabelTree.NO);
        LabelTree y = new LabelTree();
        y.grow(0, 0, 0);
        y.keep();
        y.cut(2);
        y.grow(0, 0, 0);
        y.tag(1, 5);
        y.back();
        check.due("nodes", y.count(0), 11);
        check.due("that came", y.count(1), 11);
        check.due("cut since, there again", y.node(9, 0), 3);
        check.due("put in since, gone", y.node(11, 0), LabelTree.BAD);
        check.due("tagged since, as it was", y.node(1, 0), 1);
        check.due("put in ahead of it, there", y.node(10, 0), 0);
        check.due("the next number", y.grow(0, 0, 0), 11);
    }

    private static void backForgets() {
        check.sentence("nothing is UNDONE then (the PATTERN stays)");
        LabelTree x = new LabelTree();
        Check.pattern(x, "a[/b]:d");
        x.tag(9, 0);
        x.keep();
        x.tag(8, 0);
        check.due("two can be", x.count(6), 2);
        x.back();
        check.due("none can be", x.count(6), 0);
        check.due("undo()", x.undo(), LabelTree.NO);
        check.due("its tag", x.node(9, 0), 0);
        check.due("the other one's tag", x.node(8, 0), 1);
        check.due("STEPS", x.count(2), 3);
        check.due("letters stay", x.count(8), 7);
        check.due("matches of the tree as kept", x.matches(), 4);
        LabelTree y = new LabelTree();
        y.tag(0, 1);
        check.due("refused, none kept", y.back(), LabelTree.NO);
        check.due("and one can be undone still", y.undo(), 0);
    }

    private static void countNumbers() {
        check.sentence("8 letters of THE TEXT. BAD.");
        LabelTree x = new LabelTree();
        int[] bad = {-1, 9, 10, LEAST, MOST};
        for (int what : bad) {
            check.due("count(" + what + ")", x.count(what), LabelTree.BAD);
        }
        int[] want = {10, 10, 0, 1, 3, 0, 0, 0, 0};
        for (int what = 0; what <= 8; what++) {
            check.due("count(" + what + ")", x.count(what), want[what]);
        }
        int[] least = {1, 1, 0, 0, 0, 0, 0, 0, 3};
        LabelTree y = Check.laid("r0;");
        for (int what = 0; what <= 8; what++) {
            check.due("a root alone, count(" + what + ")", y.count(what), least[what]);
        }
    }

    private static void countEach() {
        check.sentence("How many: 0 NODES there are, 1 that came so far, 2 STEPS (0: no PATTERN), 3 the most figures of a KEY, 4 the most"
                + " KEYS of a LABEL, 5 the KIND, 6 that can be UNDONE, 7 KEPT, 8 letters of THE TEXT.");
        LabelTree x = Check.laid("k1;r0;g0,0,0;g0,0,0;g0,0,0;g1,0,0;g4,0,0;");
        Check.pattern(x, "a[/a]:*");
        x.keep();
        x.cut(3);
        int[] want = {5, 6, 3, 2, 3, 1, 1, 1, 7};
        for (int what = 0; what <= 8; what++) {
            check.due("count(" + what + ")", x.count(what), want[what]);
        }
        x.undo();
        int[] undone = {6, 6, 3, 3, 3, 1, 0, 1, 7};
        for (int what = 0; what <= 8; what++) {
            check.due("undone, count(" + what + ")", x.count(what), undone[what]);
        }
        for (int figures = 4; figures <= 9; figures++) {
            x.grow(0, 0, 0);
            check.due("the most figures", x.count(3), figures);
        }
        x.back();
        check.due("the most figures, back", x.count(3), 3);
        check.due("kept, back", x.count(7), 0);
    }
}
