/** Promises 18 to 23: patterns and their matches. */
public final class PatternsTest {
    private static final Check check = new Check();

    public static void main(String[] args) {
        pattern();
        patternFaults();
        patternNinth();
        step();
        matches();
        matchesBySteps();
        puts();
        useful();
        end();
        endOfBranches();
        check.end();
    }

    private static void pattern() {
        check.promise(18, "pattern");
        LabelTree x = new LabelTree();
        String[] right = {"a", "*", "f", "a/b", "a:b+c~d", "a[/b]", "a[/b][:c]", "a[/b[+c]]", "a[/b:c~d]/e",
            "a/b/c/d/e/f/*/*", "a[/b[/c[/d[/e[/f[/*[/*]]]]]]]"};
        int[] size = {1, 1, 1, 2, 4, 2, 3, 3, 5, 8, 8};
        for (int i = 0; i < right.length; i++) {
            check.due("pattern of " + right[i], Check.pattern(x, right[i]), size[i]);
            check.due("count(2)", x.count(2), size[i]);
        }
        check.due("the text stays", x.count(8), right[10].length());
        check.due("pattern with a branch left open", Check.pattern(x, "a[/b["), -15);
        check.due("pattern behind it", Check.pattern(x, "a/b"), 2);
        check.due("pattern with a tag left out", Check.pattern(x, "a[/b[/"), -16);
        check.due("pattern behind it", Check.pattern(x, "b"), 1);
        check.due("hangs on none", x.step(0, 1), -4);
        check.due("by no axis", x.step(0, 2), -4);
    }

    private static void duePatternFault(String text, int place) {
        LabelTree x = new LabelTree();
        Check.pattern(x, "e~b");
        check.due("pattern of '" + text + "'", Check.pattern(x, text), -10 - place);
        check.due("steps as they were", x.count(2), 2);
        check.due("matches as they were", x.matches(), 2);
        check.due("its tag", x.step(1, 0), 1);
    }

    private static void patternFaults() {
        String[] first = {"", " ", "/a", "[a", "]", "g", "A", "0", "`", "+", "k0;r0;"};
        for (String text : first) {
            duePatternFault(text, 0);
        }
        String[] second = {"ab", "a]", "a ", "a*", "ag", "a;", "a,", "a-"};
        for (String text : second) {
            duePatternFault(text, 1);
            duePatternFault(text + "/a", 1);
        }
        String[] third = {"a/", "a[", "a//", "a/]", "a/[", "a/g", "a[b", "a[[", "a[]", "a[*", "a:+", "a+ "};
        for (String text : third) {
            duePatternFault(text, 2);
        }
        duePatternFault("a[/", 3);
        duePatternFault("a[/]", 3);
        duePatternFault("a[/[", 3);
        duePatternFault("a[/b", 4);
        duePatternFault("a[/bc]", 4);
        duePatternFault("a[/b]]", 5);
        duePatternFault("a[/b]c", 5);
        duePatternFault("a[/b]/", 6);
        duePatternFault("a[/b[:c]", 8);
        duePatternFault("a[/b[:c]]]", 9);
    }

    private static void patternNinth() {
        String eight = "a/b/c/d/e/f/*/*";
        duePatternFault(eight + "/", 16);
        duePatternFault(eight + "/a", 16);
        duePatternFault(eight + "/g", 16);
        duePatternFault(eight + "a", 15);
        duePatternFault(eight + "[", 16);
        duePatternFault(eight + "[/", 17);
        duePatternFault(eight + "[/a]", 17);
        duePatternFault(eight + "]", 15);
        duePatternFault("a[/b][/c][/d][/e][/f][/*][/*][/a]", 31);
        duePatternFault("a[/b[/c[/d[/e[/f[/*[/*[/a]]]]]]]]", 24);
        LabelTree x = new LabelTree();
        for (int i = 0; i < 200; i++) {
            x.write(i % 2 == 0 ? 'a' : '/');
        }
        check.due("200 letters", x.pattern(), -26);
    }

    private static void step() {
        check.promise(19, "step");
        LabelTree x = new LabelTree();
        check.due("step(0, 0), no pattern", x.step(0, 0), -1);
        Check.pattern(x, "*[:a[+f~e]/b][~c]/d+*");
        int[][] want = {
            {6, -4, -4}, {0, 0, 1}, {5, 1, 2}, {4, 2, 3}, {1, 1, 0}, {2, 0, 3}, {3, 0, 0}, {6, 6, 2}};
        for (int q = 0; q < want.length; q++) {
            for (int what = 0; what < 3; what++) {
                check.due("step(" + q + ", " + what + ")", x.step(q, what), want[q][what]);
            }
        }
        check.due("step(8, 0)", x.step(8, 0), -1);
        check.due("step(-1, 0)", x.step(-1, 0), -1);
        check.due("step(0, 3)", x.step(0, 3), -1);
        check.due("step(0, -1)", x.step(0, -1), -1);
        check.due("step(most, 0)", x.step(Integer.MAX_VALUE, 0), -1);
        Check.pattern(x, "a");
        check.due("step(1, 0) of a shorter one", x.step(1, 0), -1);
    }

    private static void dueMatches(String text, long want) {
        LabelTree x = new LabelTree();
        Check.pattern(x, text);
        check.due("matches of " + text, x.matches(), want);
    }

    private static void matches() {
        check.promise(20, "matches");
        check.due("matches(), no pattern", new LabelTree().matches(), -2);
        dueMatches("*", 10);
        dueMatches("b", 3);
        dueMatches("f", 0);
        dueMatches("*/*", 9);
        dueMatches("*:*", 9 + 5 + 1);
        dueMatches("*+*", 4);
        dueMatches("*~*", 6 + 1);
        dueMatches("a~*", 0);
        dueMatches("a+*", 0);
        dueMatches("b+b", 1);
        dueMatches("b~c", 2);
        dueMatches("b+c", 1);
        dueMatches("*[/*][/*]", 16 + 4 + 1 + 1 + 1);
        dueMatches("*/*/*/*", 1);
        dueMatches("a:d", 3);
        dueMatches("a[:d]:d", 9);
        dueMatches("a[:d[+c]]/b:d", 2);
        dueMatches("a[:f]:d", 0);
        LabelTree x = new LabelTree();
        Check.pattern(x, "e~b");
        check.due("matches", x.matches(), 2);
        x.cut(1);
        check.due("matches behind a cut", x.matches(), 1);
        x.grow(0, 1, 1);
        x.grow(0, 0, 1);
        check.due("matches behind two put in", x.matches(), 2);
    }

    private static void matchesBySteps() {
        LabelTree x = Check.laid("r0;");
        // At both ends in turn: at one end alone the keys would grow too long.
        for (int i = 0; i < 23; i++) {
            x.grow(0, i % 2 == 0 ? 0 : i, 0);
        }
        check.due("nodes", x.count(0), 24);
        Check.pattern(x, "a[/a][/a][/a][/a][/a][/a]/a");
        check.due("a wide one", x.matches(), 3404825447L);
        check.due("puts of it", x.puts(7, 5), 148035889L);
        Check.pattern(x, "*[~*][~*][~*][~*][~*][~*]~*");
        long sum = 0;
        for (long n = 0; n < 23; n++) {
            sum += n * n * n * n * n * n * n;
        }
        check.due("a later one", x.matches(), sum);
    }

    private static void puts() {
        check.promise(21, "puts");
        LabelTree x = new LabelTree();
        check.due("puts(0, 0), no pattern", x.puts(0, 0), -1);
        Check.pattern(x, "a[:d]:*");
        check.due("matches", x.matches(), 27);
        int[][] want = {{27, 0, 0, 0, 0, 0, 0, 0, 0, 0}, {0, 0, 0, 0, 9, 0, 9, 0, 0, 9}, {0, 3, 3, 3, 3, 3, 3, 3, 3, 3}};
        for (int q = 0; q < 3; q++) {
            for (int v = 0; v < 10; v++) {
                check.due("puts(" + q + ", " + v + ")", x.puts(q, v), want[q][v]);
            }
        }
        check.due("puts(3, 0)", x.puts(3, 0), -1);
        check.due("puts(-1, 0)", x.puts(-1, 0), -1);
        check.due("puts(0, -1)", x.puts(0, -1), -1);
        check.due("puts(0, 10)", x.puts(0, 10), -1);
        check.due("puts(0, 32)", x.puts(0, 32), -1);
        x.cut(4);
        check.due("puts(1, 4), cut", x.puts(1, 4), -1);
        check.due("puts(2, 9) behind a cut", x.puts(2, 9), 2);
        Check.pattern(x, "*~b+*");
        check.due("puts(1, 3)", x.puts(1, 3), 2);
        check.due("puts(2, 2)", x.puts(2, 2), 2);
        check.due("puts(2, 3)", x.puts(2, 3), 1);
    }

    private static void useful() {
        check.promise(22, "useful");
        LabelTree x = new LabelTree();
        check.due("useful(0), no pattern", x.useful(0), -1);
        Check.pattern(x, "*[/d]~*[:d]");
        check.due("useful(0)", x.useful(0), 1 << 1 | 1 << 3);
        check.due("useful(1)", x.useful(1), 1 << 4 | 1 << 6);
        check.due("useful(2)", x.useful(2), 1 << 3 | 1 << 2);
        check.due("useful(3)", x.useful(3), 1 << 6 | 1 << 9);
        check.due("useful(4)", x.useful(4), -1);
        check.due("useful(-1)", x.useful(-1), -1);
        Check.pattern(x, "a:f");
        check.due("useful(0), unmatched", x.useful(0), 0);
        check.due("useful(1), unmatched", x.useful(1), 0);
        Check.pattern(x, "*");
        check.due("useful(0), any", x.useful(0), 0x3ff);
        for (int v = 10; v < 24; v++) {
            x.grow(v - 1, 0, 0);
        }
        check.due("useful(0), all", x.useful(0), 0xffffff);
        x.cut(9);
        check.due("useful(0), cut", x.useful(0), 0x1ff);
    }

    private static void end() {
        check.promise(23, "end");
        LabelTree x = new LabelTree();
        check.due("end(-2), no pattern", x.end(-2), -1);
        check.due("end(-1), no pattern", x.end(-1), -2);
        check.due("end(0), no pattern", x.end(0), -2);
        check.due("end(most), no pattern", x.end(Integer.MAX_VALUE), -2);
        Check.pattern(x, "*/*");
        check.dueText("ends of */*", Check.ends(x), "7 1 4 5 3 6 2 8 9");
        check.due("end(-1)", x.end(-1), 9);
        check.due("end(8)", x.end(8), 9);
        check.due("end(9)", x.end(9), -4);
        check.due("end(most)", x.end(Integer.MAX_VALUE), -4);
        check.due("end(-2)", x.end(-2), -1);
        check.due("end(least)", x.end(Integer.MIN_VALUE), -1);
        Check.pattern(x, "f");
        check.due("end(-1), unmatched", x.end(-1), 0);
        check.due("end(0), unmatched", x.end(0), -4);
    }

    private static void endOfBranches() {
        LabelTree x = new LabelTree();
        Check.pattern(x, "b[/d]");
        check.dueText("ends of b[/d]", Check.ends(x), "1 3 8");
        Check.pattern(x, "a[:d]/b[/c]");
        check.dueText("ends of a[:d]/b[/c]", Check.ends(x), "1");
        Check.pattern(x, "a[:d]:*[/*[/*]]");
        check.dueText("ends of a[:d]:*[/*[/*]]", Check.ends(x), "2");
        Check.pattern(x, "*:d");
        check.dueText("each once", Check.ends(x), "4 6 9");
        Check.pattern(x, "*[/*[/*]]");
        check.dueText("the root, too", Check.ends(x), "0 2");
        Check.pattern(x, "*");
        check.due("all", x.end(-1), 10);
        check.dueText("all in the order", Check.ends(x), Check.order(x));
    }
}
