/** The sentences that bound PATTERNS and MATCHES, each on both sides (promises 18 to 23). */
public final class PatternBoundsTest {
    private static final Check check = new Check();
    private static final int LEAST = Integer.MIN_VALUE, MOST = Integer.MAX_VALUE;
    /** As long as a right one can be: eight steps, each but the first one in a branch. */
    private static final String LONGEST = "a[/b][:c[+d[~e]][/f]][:*[+a]]";

    public static void main(String[] args) {
        tags();
        axes();
        eightSteps();
        endsTooEarly();
        everyLetter();
        branches();
        hangs();
        asItWas();
        stepBothSides();
        noPattern();
        matchesBothSides();
        axesAtEdges();
        sameNodeTwice();
        putsBothSides();
        usefulBits();
        endBothSides();
        endOfOutermost();
        follows();
        check.end();
    }

    private static void duePattern(String text, int want) {
        LabelTree x = new LabelTree();
        check.due("pattern of '" + text + "'", Check.pattern(x, text), want);
        check.due("STEPS behind it", x.count(2), Math.max(want, 0));
    }

    private static void dueFault(String text, int place) {
        duePattern(text, -10 - place);
    }

    private static LabelTree matched(String text) {
        LabelTree x = new LabelTree();
        Check.pattern(x, text);
        return x;
    }

    private static void dueMatches(String text, long want) {
        check.due("matches of " + text, matched(text).matches(), want);
    }

    private static void tags() {
        check.sentence("a STEP is a TAG (a for 0 to f for 5, or * for any), behind it BRANCHES, each [ , an axis, a STEP, then axes with"
                + " STEPS likewise, ] .");
        for (int letter = 32; letter <= 126; letter++) {
            boolean right = letter >= 'a' && letter <= 'f' || letter == '*';
            String one = String.valueOf((char) letter);
            duePattern(one, right ? 1 : -10);
            duePattern("a/" + one, right ? 2 : -12);
            duePattern("a[/" + one + "]", right ? 2 : -13);
            if (right) {
                LabelTree x = matched("a/" + one);
                check.due("tag of " + one, x.step(1, 0), letter == '*' ? 6 : letter - 'a');
            }
        }
    }

    private static void axes() {
        check.sentence("Axes: / a child; : one below; + the next child of the same; ~ a later child of the same.");
        for (int letter = 32; letter <= 126; letter++) {
            int axis = "/:+~".indexOf(letter);
            String one = String.valueOf((char) letter);
            duePattern("a" + one + "b", axis >= 0 ? 2 : letter == '[' ? -12 : -11);
            duePattern("a[" + one + "b]", axis >= 0 ? 2 : -12);
            if (axis >= 0) {
                check.due("axis " + one, matched("a" + one + "b").step(1, 2), axis);
                check.due("axis [" + one, matched("a[" + one + "b]").step(1, 2), axis);
            }
        }
    }

    private static void eightSteps() {
        check.sentence("A PATTERN is a TEXT, too: a STEP, then axes with STEPS behind them, as many as one likes, 8 STEPS in all at"
                + " most;");
        check.sentence("(a ninth TAG, too; its size, if it ends too early)");
        String line = "a";
        String star = "a";
        String open = "a";
        for (int steps = 1; steps <= 8; steps++) {
            duePattern(line, steps);
            duePattern(star, steps);
            duePattern(open + "]".repeat(steps - 1), steps);
            line += "/*";
            star += "[/*]";
            open += "[/*";
        }
        dueFault(line, 16);
        dueFault(line + "/*", 16);
        dueFault(line.substring(0, 16), 16);
        dueFault(line.substring(0, 16) + "g", 16);
        dueFault(star, 31);
        dueFault(star + "[/*]", 31);
        dueFault(star.substring(0, 31), 31);
        dueFault(star.substring(0, 30), 30);
        dueFault(open, 24);
        dueFault(open + "]".repeat(8), 24);
        dueFault(open.substring(0, 24), 24);
        dueFault(open.substring(0, 23), 23);
        dueFault(open.substring(0, 22) + "]".repeat(6), 28);
        duePattern(open.substring(0, 22) + "]".repeat(7), 8);
        dueFault(open.substring(0, 22) + "]".repeat(8), 29);
        dueFault("a[/a[/a]/a]/a[/a]/a/a+a", 22);
        duePattern("a[/a[/a]/a]/a[/a]/a/a", 8);
    }

    /** Each beginning of a right pattern is right itself or ends too early. */
    private static void endsTooEarly() {
        check.sentence("its size, if it ends too early");
        check.due("letters of the longest", LONGEST.length(), 8 + 7 + 14);
        duePattern(LONGEST, 8);
        dueFault("", 0);
        String line = "a/b:c+d~e[/f]/a[~*]";
        for (String whole : new String[] {LONGEST, line}) {
            int depth = 0;
            int steps = 0;
            for (int size = 1; size <= whole.length(); size++) {
                char last = whole.charAt(size - 1);
                depth += last == '[' ? 1 : last == ']' ? -1 : 0;
                steps += "abcdef*".indexOf(last) >= 0 ? 1 : 0;
                boolean right = depth == 0 && "/:+~[".indexOf(last) < 0;
                duePattern(whole.substring(0, size), right ? steps : -10 - size);
            }
        }
    }

    /** At each place of a right pattern each letter: only what may come there lets it go on. */
    private static void everyLetter() {
        check.sentence("Its FAULT is the place of the first letter at which it can't go on so");
        String whole = "a[/b:c]~d";
        String[] may = {"abcdef*", "[/:+~", "/:+~", "abcdef*", "[]/:+~", "abcdef*", "[]/:+~", "[/:+~", "abcdef*"};
        for (int place = 0; place < whole.length(); place++) {
            for (int letter = 32; letter <= 126; letter++) {
                String text = whole.substring(0, place) + (char) letter;
                int got = Check.pattern(new LabelTree(), text);
                boolean can = may[place].indexOf(letter) >= 0;
                check.due("'" + text + "' goes on", got == -10 - place ? 0 : 1, can ? 1 : 0);
                if (!can) {
                    dueFault(text + "/a", place);
                }
            }
        }
    }

    private static void branches() {
        check.sentence("each [ , an axis, a STEP, then axes with STEPS likewise, ] .");
        duePattern("a[/b]", 2);
        duePattern("a[/b][/c]", 3);
        duePattern("a[/b[/c]]", 3);
        duePattern("a[/b/c]", 3);
        duePattern("a[/b]/c", 3);
        duePattern("a/b[/c]", 3);
        dueFault("[/a]", 0);
        dueFault("a[]", 2);
        dueFault("a[b]", 2);
        dueFault("a[/]", 3);
        dueFault("a[/b", 4);
        dueFault("a[/b]]", 5);
        dueFault("a]", 1);
        dueFault("a[/b]c", 5);
        dueFault("a/[/b]", 2);
        dueFault("a/b]", 3);
        dueFault("a[[/b]]", 2);
    }

    private static void dueHangs(String text, int... on) {
        LabelTree x = matched(text);
        check.due("STEPS of " + text, x.count(2), on.length);
        for (int q = 0; q < on.length; q++) {
            check.due("step " + q + " of " + text + " hangs on", x.step(q, 1), on[q]);
        }
    }

    private static void hangs() {
        check.sentence("STEPS are numbered as their TAGS come; each but the first one hangs by its axis on the STEP ahead of it on the same"
                + " level, or on the one whose BRANCH it begins.");
        int none = LabelTree.NONE;
        dueHangs("a", none);
        dueHangs("a/b/c", none, 0, 1);
        dueHangs("a[/b]/c", none, 0, 0);
        dueHangs("a[/b/c]/d", none, 0, 1, 0);
        dueHangs("a[/b[/c]/d]/e", none, 0, 1, 1, 0);
        dueHangs("a[/b][/c]/d[/e][/f]/a", none, 0, 0, 0, 3, 3, 3);
        dueHangs(LONGEST, none, 0, 0, 2, 3, 2, 0, 6);
    }

    private static void asItWas() {
        check.sentence("THE TEXT is the PATTERN: how many STEPS it has. -10 less FAULT: the PATTERN is as it was.");
        String[] wrong = {"", "g", "a/", "a[/b", "a/b/c/d/e/f/a/b/c", "a[/b[:c]+d", "r0;"};
        for (String text : wrong) {
            check.dueText("behind '" + text + "'", Portrait.of(() -> {
                LabelTree x = matched("*[/d]~b");
                Check.pattern(x, text);
                x.wipe();
                return x;
            }), Portrait.of(() -> {
                LabelTree x = matched("*[/d]~b");
                x.wipe();
                return x;
            }));
        }
        LabelTree x = matched("a");
        check.due("one behind another", Check.pattern(x, "b/c"), 2);
        check.due("again", x.pattern(), 2);
        check.due("STEPS", x.count(2), 2);
        x.wipe();
        check.due("wiped, it stays", x.count(2), 2);
        check.due("of no letters", x.pattern(), -10);
        check.due("it stays", x.count(2), 2);
        Check.write(x, "k0;");
        check.due("of a tree's letters", x.pattern(), -10);
        for (String text : wrong) {
            LabelTree z = new LabelTree();
            Check.pattern(z, text);
            check.due("a right one behind '" + text + "'", Check.pattern(z, "a/b"), 2);
            check.due("its axis", z.step(1, 2), 0);
            check.due("its ends", z.end(-1), 2);
        }
        LabelTree y = matched("a/");
        check.due("none as it was", y.matches(), LabelTree.NO);
        for (int i = 2; i < 200; i++) {
            y.write('/');
        }
        check.due("of 200 letters", y.pattern(), -12);
    }

    private static void stepBothSides() {
        check.sentence("Of a STEP: TAG (what = 0; 6 for any), the STEP on which it hangs (1; NONE), by which axis (2: 0 child, 1 below, 2"
                + " next, 3 later; NONE). BAD (no such STEP).");
        LabelTree x = matched("f[/a:b]+*~c");
        int[][] want = {{5, LabelTree.NONE, LabelTree.NONE}, {0, 0, 0}, {1, 1, 1}, {6, 0, 2}, {2, 3, 3}};
        int[] bad = {-1, 3, 4, LEAST, MOST};
        for (int q = 0; q < 5; q++) {
            for (int what = 0; what < 3; what++) {
                check.due("step(" + q + ", " + what + ")", x.step(q, what), want[q][what]);
            }
            for (int what : bad) {
                check.due("step(" + q + ", " + what + ")", x.step(q, what), LabelTree.BAD);
            }
        }
        int[] none = {-1, 5, 6, 7, 8, 9, LEAST, MOST};
        for (int q : none) {
            for (int what = 0; what < 3; what++) {
                check.due("step(" + q + ", " + what + ")", x.step(q, what), LabelTree.BAD);
            }
            check.due("puts(" + q + ", 0)", x.puts(q, 0), LabelTree.BAD);
            check.due("useful(" + q + ")", x.useful(q), LabelTree.BAD);
        }
        LabelTree y = matched(LONGEST);
        check.due("the eighth", y.step(7, 0), 0);
        check.due("the ninth", y.step(8, 0), LabelTree.BAD);
        Check.pattern(y, "b");
        check.due("the first", y.step(0, 0), 1);
        check.due("the second, of one ahead", y.step(1, 0), LabelTree.BAD);
        check.due("its bits", y.useful(1), LabelTree.BAD);
        check.due("its matches", y.puts(1, 0), LabelTree.BAD);
    }

    private static void noPattern() {
        check.sentence("How many MATCHES there are. NO (-2): no PATTERN.");
        LabelTree x = new LabelTree();
        check.due("matches()", x.matches(), -2);
        check.due("puts(0, 0)", x.puts(0, 0), -1);
        check.due("puts(0, 10)", x.puts(0, 10), -1);
        check.due("useful(0)", x.useful(0), -1);
        for (int what = 0; what < 3; what++) {
            check.due("step(0, " + what + ")", x.step(0, what), -1);
        }
        check.due("STEPS", x.count(2), 0);
        Check.pattern(x, "f");
        check.due("matches() of one that is not matched", x.matches(), 0);
        check.due("puts(0, 0)", x.puts(0, 0), 0);
        check.due("useful(0)", x.useful(0), 0);
        check.due("end(-1)", x.end(-1), 0);
        Check.lay(x, "r0;");
        check.due("matches() behind lay()", x.matches(), -2);
        check.due("end(-1) behind lay()", x.end(-1), -2);
    }

    private static void matchesBothSides() {
        check.sentence("A MATCH puts a NODE for each STEP, of its TAG, standing to the NODE of the STEP on which it hangs as the axis says.");
        dueMatches("a", 1);
        dueMatches("b", 3);
        dueMatches("c", 2);
        dueMatches("d", 3);
        dueMatches("e", 1);
        dueMatches("f", 0);
        dueMatches("*", 10);
        dueMatches("a/*/*/*/*", 0);
        dueMatches("a/*/*/*", 1);
        LabelTree x = Check.laid("r0;");
        for (int v = 1; v < 24; v++) {
            x.grow(v - 1, 0, 0);
        }
        Check.pattern(x, "a:a:a:a:a:a:a:a");
        check.due("eight of 24 in a line", x.matches(), 735471);
        LabelTree y = Check.laid("r0;g0,0,0;");
        Check.pattern(y, "*[/*][/*][/*][/*][/*][/*]/*");
        check.due("one child for seven steps", y.matches(), 1);
    }

    private static void axesAtEdges() {
        LabelTree x = Check.laid("r0;g0,0,1;g0,1,2;g0,2,3;g1,0,4;g3,0,5;");
        String[] texts = {"a/b", "a/e", "a:e", "a:a", "b+c", "b+d", "b~d", "b~c", "d+*", "d~*", "b+b", "b~b", "a+*", "a~*", "*+a", "*~a",
            "c+b", "c~b", "e+f", "e~f", "e+*", "b/a", "b:a", "*/a", "*:a"};
        int[] want = {1, 0, 1, 0, 1, 0, 1, 1, 0, 0, 0, 0, 0, 0, 0, 0, 0, 0, 0, 0, 0, 0, 0, 0, 0};
        for (int i = 0; i < texts.length; i++) {
            Check.pattern(x, texts[i]);
            check.due("matches of " + texts[i], x.matches(), want[i]);
        }
        x.cut(2);
        Check.pattern(x, "b+d");
        check.due("next, once one between is cut", x.matches(), 1);
        x.undo();
        check.due("next, with one between again", x.matches(), 0);
    }

    private static void sameNodeTwice() {
        LabelTree x = Check.laid("r0;g0,0,1;");
        String[] texts = {"a[/b]/b", "a[/b]:b", "a[/b][/b]"};
        for (String text : texts) {
            Check.pattern(x, text);
            check.due("one node for two steps, " + text, x.matches(), 1);
        }
    }

    private static void putsBothSides() {
        check.sentence("How many MATCHES put a NODE for a STEP. BAD (-1).");
        LabelTree x = matched("a:d");
        int[] second = {0, 0, 0, 0, 1, 0, 1, 0, 0, 1};
        for (int v = 0; v < 10; v++) {
            check.due("puts(0, " + v + ")", x.puts(0, v), v == 0 ? 3 : 0);
            check.due("puts(1, " + v + ")", x.puts(1, v), second[v]);
        }
        int[] bad = {-1, 10, 23, 24, 32, LEAST, MOST};
        for (int v : bad) {
            check.due("puts(1, " + v + ")", x.puts(1, v), LabelTree.BAD);
            check.due("puts(2, " + v + ")", x.puts(2, v), LabelTree.BAD);
        }
        check.due("puts(2, 0)", x.puts(2, 0), LabelTree.BAD);
        check.due("puts(-1, 0)", x.puts(-1, 0), LabelTree.BAD);
        LabelTree y = Check.laid("r0;");
        for (int i = 0; i < 23; i++) {
            y.grow(0, i, 0);
        }
        Check.pattern(y, "a[/a][/a][/a][/a][/a][/a]/a");
        check.due("more than an int holds", y.puts(0, 0), 3404825447L);
        check.due("all of them", y.matches(), 3404825447L);
        check.due("one child's", y.puts(1, 23), 148035889L);
    }

    private static void usefulBits() {
        check.sentence("USEFUL for a STEP, as bits. BAD.");
        LabelTree x = matched("*");
        check.due("all ten", x.useful(0), 1023);
        for (int v = 10; v < 24; v++) {
            x.grow(0, 4, 5);
        }
        check.due("all 24", x.useful(0), (1 << 24) - 1);
        Check.pattern(x, "f");
        check.due("those put in", x.useful(0), (1 << 24) - (1 << 10));
        x.cut(23);
        check.due("without the last one", x.useful(0), (1 << 23) - (1 << 10));
        check.sentence("USEFUL for a STEP are the NODES that some MATCH puts for it.");
        LabelTree y = matched("b[/d]/c");
        check.due("the first step's", y.useful(0), 1 << 1);
        check.due("the second step's", y.useful(1), 1 << 4);
        check.due("the third step's", y.useful(2), 1 << 5);
        check.due("a fourth's", y.useful(3), LabelTree.BAD);
        check.due("the one ahead of the first", y.useful(-1), LabelTree.BAD);
        y.cut(4);
        for (int q = 0; q < 3; q++) {
            check.due("none, once a branch is not matched", y.useful(q), 0);
        }
    }

    private static void endBothSides() {
        check.sentence("The k-th of ENDS in the ORDER (k = -1: how many). NONE: not so many; NO: no PATTERN; BAD (below -1; ahead of NO).");
        LabelTree none = new LabelTree();
        check.due("no pattern, end(-2)", none.end(-2), LabelTree.BAD);
        check.due("no pattern, end(least)", none.end(LEAST), LabelTree.BAD);
        check.due("no pattern, end(-1)", none.end(-1), LabelTree.NO);
        check.due("no pattern, end(0)", none.end(0), LabelTree.NO);
        check.due("no pattern, end(most)", none.end(MOST), LabelTree.NO);
        LabelTree x = matched("a:d");
        int[] want = {LabelTree.BAD, 3, 4, 6, 9, LabelTree.NONE, LabelTree.NONE};
        for (int k = -2; k < 5; k++) {
            check.due("end(" + k + ")", x.end(k), want[k + 2]);
        }
        check.due("end(most)", x.end(MOST), LabelTree.NONE);
        check.due("end(least)", x.end(LEAST), LabelTree.BAD);
        LabelTree y = matched("f");
        check.due("none, end(-2)", y.end(-2), LabelTree.BAD);
        check.due("none, end(-1)", y.end(-1), 0);
        check.due("none, end(0)", y.end(0), LabelTree.NONE);
        LabelTree z = matched("a");
        check.due("one, end(-1)", z.end(-1), 1);
        check.due("one, end(0)", z.end(0), 0);
        check.due("one, end(1)", z.end(1), LabelTree.NONE);
        LabelTree all = matched("*");
        for (int v = 10; v < 24; v++) {
            all.grow(v - 1, 0, 0);
        }
        check.due("24, end(-1)", all.end(-1), 24);
        check.due("24, end(23)", all.end(23), 23);
        check.due("24, end(24)", all.end(24), LabelTree.NONE);
    }

    private static void endOfOutermost() {
        check.sentence("ENDS are those of the last STEP of the outermost level.");
        String[] texts = {"b[/d]", "a[/b]", "a[:d]/b[/d/*]", "a[:d]/b[/d+*]", "a/b[/d]", "a[/b[/d]]", "a[/c]/e[~b]"};
        String[] want = {"1 3 8", "0", "", "1", "1 3", "0", "7"};
        for (int i = 0; i < texts.length; i++) {
            check.dueText("ends of " + texts[i], Check.ends(matched(texts[i])), want[i]);
        }
    }

    private static void follows() {
        LabelTree y = matched("*");
        check.due("all ten", y.end(-1), 10);
        for (int v = 9; v > 0; v--) {
            y.cut(v);
            check.due("how many are left", y.end(-1), y.count(0));
            check.due("the last of them", y.end(y.count(0) - 1), y.at(y.count(0) - 1));
            check.due("one more", y.end(y.count(0)), LabelTree.NONE);
            check.due("its matches", y.matches(), y.count(0));
        }
        LabelTree z = matched("*/*");
        check.due("the first child is a child", z.puts(1, 7), 1);
        Check.pattern(z, "*+*");
        check.due("the first child is next to none", z.puts(1, 7), 0);
        check.due("the second is", z.puts(1, 1), 1);
        LabelTree x = matched("a/*");
        check.due("at first", x.end(-1), 4);
        x.grow(0, 0, 5);
        check.due("one put in", x.end(-1), 5);
        check.due("the first of them", x.end(0), 10);
        x.tag(0, 1);
        check.due("the root of another tag", x.end(-1), 0);
        x.undo();
        check.due("undone", x.end(-1), 5);
        x.keep();
        x.cut(1);
        check.due("one cut", x.end(-1), 4);
        check.due("its matches", x.matches(), 4);
        x.back();
        check.due("back", x.end(-1), 5);
        check.due("its matches", x.puts(0, 0), 5);
    }
}
