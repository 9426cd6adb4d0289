/** The sentences that bound a TEXT and what it lays, each on both sides (promises 1 to 5). */
public final class TextBoundsTest {
    private static final Check check = new Check();

    public static void main(String[] args) {
        newObject();
        letters();
        twoHundredLetters();
        twoHundredLettersAreRead();
        wipes();
        items();
        figures();
        kinds();
        kindOnceAndAhead();
        kindWithout();
        roots();
        tagsOfNodes();
        parents();
        places();
        twentyThree();
        withoutKey();
        faults();
        laid();
        layForgets();
        calls();
        check.end();
    }

    private static void dueFault(String text, int want) {
        check.due("fault of '" + text + "'", Check.fault(new LabelTree(), text), want);
    }

    /** A right text, and that it is laid. */
    private static void dueRight(String text, int nodes) {
        LabelTree x = new LabelTree();
        check.due("fault of '" + text + "'", Check.fault(x, text), LabelTree.NONE);
        check.due("lay of '" + text + "'", x.lay(), nodes);
    }

    /** A text with a fault at a place, and that it is not laid. */
    private static void dueWrong(String text, int place) {
        LabelTree x = new LabelTree();
        check.due("fault of '" + text + "'", Check.fault(x, text), place);
        check.due("lay of '" + text + "'", x.lay(), LabelTree.NO);
        check.due("nodes behind it", x.count(0), 10);
    }

    private static void newObject() {
        check.sentence("at first k0;r0;g0,0,1;g0,1,2;g0,1,1;g1,0,3;g1,1,2;g3,0,3;g0,0,4;g2,0,1;g8,0,3;");
        String text = "k0;r0;g0,0,1;g0,1,2;g0,1,1;g1,0,3;g1,1,2;g3,0,3;g0,0,4;g2,0,1;g8,0,3;";
        check.dueText("what can be asked", Portrait.of(LabelTree::new), Portrait.of(() -> {
            LabelTree x = Check.laid(text);
            x.wipe();
            return x;
        }));
        check.sentence("As told; no PATTERN.");
        LabelTree x = new LabelTree();
        check.due("matches()", x.matches(), LabelTree.NO);
        check.due("end(-1)", x.end(-1), LabelTree.NO);
        check.due("step(0, 0)", x.step(0, 0), LabelTree.BAD);
        check.due("STEPS", x.count(2), 0);
        check.due("letters", x.count(8), 0);
        check.due("kept", x.count(7), 0);
        check.due("that can be undone", x.count(6), 0);
        check.due("the text's fault", x.fault(), LabelTree.NONE);
        check.due("the text laid", x.lay(), LabelTree.NO);
    }

    private static void letters() {
        check.sentence("A letter (32 to 126, as in ASCII) comes behind THE TEXT: how long it is. BAD; FULL.");
        LabelTree x = new LabelTree();
        check.due("write(31)", x.write(31), LabelTree.BAD);
        check.due("write(32)", x.write(32), 1);
        check.due("write(126)", x.write(126), 2);
        check.due("write(127)", x.write(127), LabelTree.BAD);
        int[] bad = {-1, 0, 9, 128, 255, 256 + 97, 65536 + 97, Integer.MIN_VALUE, Integer.MIN_VALUE + 97, Integer.MAX_VALUE};
        for (int letter : bad) {
            check.due("write(" + letter + ")", x.write(letter), LabelTree.BAD);
        }
        check.due("letters", x.count(8), 2);
        x.wipe();
        Check.write(x, "r5;");
        check.due("it comes behind", x.lay(), 1);
        check.due("as it was written", x.node(0, 0), 5);
    }

    private static void twoHundredLetters() {
        check.sentence("A TEXT is letters (200 at most)");
        LabelTree x = new LabelTree();
        for (int size = 1; size <= 200; size++) {
            check.due("write to " + size, x.write('a'), size);
        }
        check.due("the letter 201", x.write('a'), LabelTree.FULL);
        check.due("once more", x.write(126), LabelTree.FULL);
        check.due("one too small", x.write(31), LabelTree.BAD);
        check.due("one too great", x.write(127), LabelTree.BAD);
        check.due("letters", x.count(8), 200);
        check.due("wipe()", x.wipe(), 200);
        check.due("a letter behind", x.write('a'), 1);
    }

    /** A chain of 24 nodes in a text of that many letters, 180 to 200: zeros in front fill it up. */
    private static String chain(int size) {
        int zeros = size - 180;
        StringBuilder text = new StringBuilder("k0;r0;");
        for (int v = 1; v <= 23; v++) {
            String place = zeros > 0 ? "00" : "0";
            zeros--;
            text.append('g').append(v - 1).append(',').append(place).append(",1;");
        }
        return text.toString();
    }

    private static void twoHundredLettersAreRead() {
        String text = chain(200);
        check.due("letters of the text", text.length(), 200);
        dueRight(text, 24);
        int last = 200 - "g22,0,1;".length();
        check.due("the last item begins", text.charAt(last), 'g');
        dueWrong(text.substring(0, 199), last);
        dueWrong(text.substring(0, 199) + ",", last);
        dueWrong(text.substring(0, 198) + "6;", last);
        LabelTree x = new LabelTree();
        Check.write(x, text.substring(0, 199));
        check.due("199 letters", x.lay(), LabelTree.NO);
        check.due("the letter 200", x.write(';'), 200);
        check.due("200 letters", x.lay(), 24);
        String shorter = chain(199);
        check.due("letters of the shorter text", shorter.length(), 199);
        dueRight(shorter, 24);
        dueWrong(shorter + "x", 199);
        dueWrong(shorter + "g", 199);
    }

    private static void wipes() {
        check.sentence("THE TEXT is empty: how long it was.");
        LabelTree x = new LabelTree();
        check.due("wipe() of none", x.wipe(), 0);
        x.write('r');
        check.due("wipe() of one", x.wipe(), 1);
        check.due("wipe() again", x.wipe(), 0);
        Check.write(x, "r7;");
        check.due("fault()", x.fault(), 0);
        check.due("wipe() of three", x.wipe(), 3);
        check.due("fault() behind it", x.fault(), LabelTree.NONE);
        check.due("pattern() behind it", x.pattern(), -10);
        check.due("lay() behind it", x.lay(), LabelTree.NO);
        check.due("letters", x.count(8), 0);
    }

    private static void items() {
        check.sentence("ITEMS one behind the other, each a letter, then numbers (one or two figures) parted by , and a ; behind"
                + " the last one:");
        dueRight("r0;", 1);
        dueRight("k1;r0;", 1);
        dueRight("k1;r0;g0,0,0;", 2);
        for (int letter = 32; letter <= 126; letter++) {
            String one = String.valueOf((char) letter);
            dueFault(one + "0;", letter == 'k' || letter == 'r' ? LabelTree.NONE : 0);
            dueFault("r0;" + one + "0,0,0;", letter == 'g' ? LabelTree.NONE : 3);
            dueFault("r0" + one, letter == ';' ? LabelTree.NONE : 0);
            dueFault("r" + one + ";", letter >= '0' && letter <= '5' ? LabelTree.NONE : 0);
            dueFault("r0;g0" + one + "0,0;", letter == ',' ? LabelTree.NONE : 3);
            dueFault("r0;g0,0" + one + "0;", letter == ',' ? LabelTree.NONE : 3);
            dueFault("r0;g0,0,0" + one, letter == ';' ? LabelTree.NONE : 3);
            dueFault("r0;" + one, 3);
            dueFault("r0;g0,0,0;" + one + ";", 10);
            dueFault("r0;g0,0,0;" + one + "0;", 10);
            dueFault("r0;g0,0,0;" + one + "0,0;", 10);
        }
        dueWrong("k0,0;r0;", 0);
        dueWrong("r0,0;", 0);
        dueWrong("r0;g0,0;", 3);
        dueWrong("r0;g0;", 3);
        dueWrong("r0;g0,0,0,0;", 3);
        dueWrong("r0;;", 3);
        dueWrong(";r0;", 0);
    }

    private static void figures() {
        check.sentence("numbers (one or two figures)");
        String[][] around = {{"k", ";r0;"}, {"r", ";"}, {"r0;g", ",0,0;"}, {"r0;g0,", ",0;"}, {"r0;g0,0,", ";"}};
        for (int i = 0; i < around.length; i++) {
            int place = i < 2 ? 0 : 3;
            int nodes = i < 2 ? 1 : 2;
            dueWrong(around[i][0] + around[i][1], place);
            dueRight(around[i][0] + "0" + around[i][1], nodes);
            dueRight(around[i][0] + "00" + around[i][1], nodes);
            dueWrong(around[i][0] + "000" + around[i][1], place);
            dueWrong(around[i][0] + "0000000000" + around[i][1], place);
            dueWrong(around[i][0] + "-0" + around[i][1], place);
            dueWrong(around[i][0] + "0 " + around[i][1], place);
            dueWrong(around[i][0] + "99" + around[i][1], place);
            dueWrong(around[i][0] + "100" + around[i][1], place);
        }
        // 2^32 and 2^32 + 1 would be 0 and 1 again, were more figures read.
        dueWrong("r4294967296;", 0);
        dueWrong("r0;g4294967296,0,0;", 3);
        LabelTree x = Check.laid("k02;r04;g00,00,03;");
        check.due("the kind of two figures", x.count(5), 2);
        check.due("the root's tag of two figures", x.node(0, 0), 4);
        check.due("a tag of two figures", x.node(1, 0), 3);
    }

    private static void kinds() {
        check.sentence("KEYS are chosen by KIND K (0 MIDDLE, 1 LOW, 2 HIGH, 3 NEAR; 0 without; told at most once, ahead of all"
                + " others)");
        int[] first = {5, 1, 9, 2};
        for (int kind = 0; kind < 4; kind++) {
            LabelTree x = Check.laid("k" + kind + ";r0;g0,0,0;");
            check.due("the kind", x.count(5), kind);
            check.due("the first key by kind " + kind, x.key(1, 0, 0), first[kind]);
        }
        dueWrong("k4;r0;", 0);
        dueWrong("k04;r0;", 0);
        dueWrong("k9;r0;", 0);
        dueWrong("k10;r0;", 0);
        dueRight("k03;r0;", 1);
    }

    private static void kindOnceAndAhead() {
        check.sentence("told at most once, ahead of all others");
        dueRight("k1;r0;g0,0,0;", 2);
        dueRight("r0;g0,0,0;", 2);
        dueWrong("k1;k1;r0;", 3);
        dueWrong("k0;k0;r0;", 3);
        dueWrong("k1;r0;k1;", 6);
        dueWrong("r0;k1;", 3);
        dueWrong("r0;k0;", 3);
        dueWrong("r0;g0,0,0;k1;", 10);
        dueWrong("k1;r0;g0,0,0;k1;", 13);
    }

    private static void kindWithout() {
        check.sentence("0 without");
        LabelTree x = Check.laid("k3;r0;g0,0,0;");
        check.due("kind 3", x.count(5), 3);
        Check.fault(x, "k2;r0;");
        check.due("kind behind a fault() asked", x.count(5), 3);
        Check.lay(x, "k2;r0;r0;");
        check.due("kind behind a lay() refused", x.count(5), 3);
        check.due("keys by it", x.between(1, 0, 0), 2);
        Check.lay(x, "r0;g0,0,0;");
        check.due("kind without", x.count(5), 0);
        check.due("the key without", x.key(1, 0, 0), 5);
    }

    private static void roots() {
        check.sentence("NODE 0 is the root, of TAG T (0 to 5; told once)");
        for (int tag = 0; tag <= 5; tag++) {
            LabelTree x = Check.laid("r" + tag + ";");
            check.due("the root's tag", x.node(0, 0), tag);
            check.due("nodes", x.count(0), 1);
        }
        dueWrong("r6;", 0);
        dueWrong("r06;", 0);
        dueWrong("r10;", 0);
        dueWrong("r0;r0;", 3);
        dueWrong("r0;r1;", 3);
        dueWrong("r0;g0,0,0;r0;", 10);
        dueFault("", LabelTree.NONE);
        dueFault("k0;", LabelTree.NONE);
        check.due("lay without a root", Check.lay(new LabelTree(), "k0;"), LabelTree.NO);
    }

    private static void tagsOfNodes() {
        check.sentence("23 come as they are put in, each with a TAG 0 to 5; one that is cut is gone for good.");
        for (int tag = 0; tag <= 5; tag++) {
            check.due("tag of a node", Check.laid("r0;g0,0," + tag + ";").node(1, 0), tag);
        }
        dueWrong("r0;g0,0,6;", 3);
        dueWrong("r0;g0,0,06;", 3);
        dueWrong("r0;g0,0,10;", 3);
        dueWrong("r0;g0,0,99;", 3);
    }

    private static void parents() {
        check.sentence("the next NODE, of TAG T, is put in below NODE P (there already) at place A of its children (0 to as"
                + " many as there are); 23 at most");
        StringBuilder text = new StringBuilder("r0;");
        for (int v = 1; v <= 23; v++) {
            int place = text.length();
            dueWrong(text + "g" + v + ",0,0;", place);
            dueWrong(text + "g" + (v + 1) + ",0,0;", place);
            text.append('g').append(v - 1).append(",0,0;");
            dueRight(text.toString(), v + 1);
        }
        LabelTree x = Check.laid(text.toString());
        for (int v = 1; v <= 23; v++) {
            check.due("parent of " + v, x.node(v, 1), v - 1);
        }
        int[] never = {23, 24, 31, 32, 33, 64, 96};
        for (int p : never) {
            dueWrong("r0;g0,0,0;g" + p + ",0,0;", 10);
        }
    }

    private static void places() {
        check.sentence("at place A of its children (0 to as many as there are)");
        StringBuilder text = new StringBuilder("r0;");
        for (int kids = 0; kids <= 22; kids++) {
            int place = text.length();
            dueWrong(text + "g0," + (kids + 1) + ",0;", place);
            dueWrong(text + "g0,99,0;", place);
            dueRight(text + "g0,0,0;", kids + 2);
            text.append("g0,").append(kids).append(",0;");
            dueRight(text.toString(), kids + 2);
        }
        LabelTree x = Check.laid(text.toString());
        for (int i = 0; i < 23; i++) {
            check.due("child at " + i, x.child(0, i), i + 1);
        }
        LabelTree y = Check.laid("r0;g0,0,0;g0,0,0;g0,1,0;g0,3,0;g1,0,0;");
        check.dueText("order by places", Check.order(y), "0 2 3 1 5 4");
        // The children of another node do not count.
        dueWrong("r0;g0,0,0;g0,1,0;g1,1,0;", 17);
        dueRight("r0;g0,0,0;g0,1,0;g1,0,0;g1,1,0;", 5);
    }

    private static void twentyThree() {
        check.sentence("23 at most");
        StringBuilder text = new StringBuilder("r0;");
        for (int v = 1; v <= 22; v++) {
            text.append("g0,").append(v - 1).append(",0;");
        }
        dueRight(text.toString(), 23);
        text.append("g0,22,0;");
        dueRight(text.toString(), 24);
        dueWrong(text + "g0,23,0;", text.length());
        dueWrong(text + "g0,0,0;", text.length());
        dueWrong(text + "g23,0,0;", text.length());
        LabelTree x = Check.laid(text.toString());
        check.due("the last one is there", x.node(23, 0), 0);
        check.due("none behind it", x.node(24, 0), LabelTree.BAD);
    }

    /** Nodes put in at one end by a kind that runs out there soonest. */
    private static void dueRunsOut(String kind, int howMany, boolean atEnd) {
        StringBuilder text = new StringBuilder(kind).append("r0;");
        for (int i = 0; i < howMany; i++) {
            text.append("g0,").append(atEnd ? i : 0).append(",0;");
        }
        dueRight(text.toString(), howMany + 1);
        dueWrong(text + "g0," + (atEnd ? howMany : 0) + ",0;", text.length());
        dueRight(text + "g0," + (atEnd ? 0 : howMany) + ",0;", howMany + 2);
        dueRight(text + "g1,0,0;", howMany + 2);
        LabelTree x = Check.laid(text.toString());
        check.due("figures of the last key", x.key(howMany, 0, 1), 9);
    }

    private static void withoutKey() {
        check.sentence("(g ahead of r, one for which there is no KEY, too)");
        dueWrong("g0,0,0;r0;", 0);
        dueWrong("k0;g0,0,0;r0;", 3);
        dueRight("k0;r0;g0,0,0;", 2);
        dueRunsOut("k1;", 9, false);
        dueRunsOut("k2;", 9, true);
        dueRunsOut("k3;", 18, false);
    }

    private static void faults() {
        check.sentence("FAULT: the place of the first letter of the first ITEM that is not so");
        dueWrong("r6;r6;", 0);
        dueWrong("r0;g0,1,0;g0,0,9;", 3);
        dueWrong("r0;g0,0,0;g0,0,9;k0;", 10);
        dueWrong("r0;g0,0,0;g0,0,0;g0", 17);
        dueWrong("r0;g0,0,0;g0,0,0;g0,4,0", 17);
        check.sentence("FAULT. NONE.");
        LabelTree x = new LabelTree();
        check.due("fault() of no letters", x.fault(), LabelTree.NONE);
        x.write('r');
        check.due("fault() of r", x.fault(), 0);
        x.write('0');
        check.due("fault() of r0", x.fault(), 0);
        x.write(';');
        check.due("fault() of r0;", x.fault(), LabelTree.NONE);
        x.write('g');
        check.due("fault() of r0;g", x.fault(), 3);
        check.due("asked again", x.fault(), 3);
        check.due("letters", x.count(8), 4);
    }

    private static void laid() {
        check.sentence("LAID is a TEXT without FAULT, with a root (NO else;");
        LabelTree x = new LabelTree();
        check.due("lay of no letters", x.lay(), LabelTree.NO);
        check.due("lay of a kind alone", Check.lay(x, "k1;"), LabelTree.NO);
        check.due("lay with a fault", Check.lay(x, "k1;r0;r0;"), LabelTree.NO);
        check.due("kind stays", x.count(5), 0);
        check.due("nodes stay", x.count(0), 10);
        check.due("lay of a root alone", Check.lay(x, "r0;"), 1);
        check.due("nodes", x.count(0), 1);
        check.due("that came", x.count(1), 1);
        check.due("children", x.node(0, 2), 0);
        check.due("letters stay", x.count(8), 3);
        check.due("lay again", x.lay(), 1);
        check.due("refused behind it", Check.lay(x, "r0"), LabelTree.NO);
        check.due("nodes stay", x.count(0), 1);
    }

    private static LabelTree busy() {
        LabelTree x = new LabelTree();
        Check.pattern(x, "*:*");
        x.grow(0, 0, 0);
        x.keep();
        x.tag(1, 5);
        x.keep();
        x.wipe();
        return x;
    }

    private static void layForgets() {
        check.sentence("LAID: how many NODES; no PATTERN, nothing UNDONE, KEPT. NO.");
        LabelTree x = busy();
        check.due("lay of no letters", x.lay(), LabelTree.NO);
        check.due("STEPS stay", x.count(2), 2);
        check.due("what can be undone stays", x.count(6), 2);
        check.due("kept stay", x.count(7), 2);
        check.due("lay", Check.lay(x, "r0;g0,0,0;"), 2);
        check.due("no STEPS", x.count(2), 0);
        check.due("matches()", x.matches(), LabelTree.NO);
        check.due("useful(0)", x.useful(0), LabelTree.BAD);
        check.due("nothing can be undone", x.count(6), 0);
        check.due("undo()", x.undo(), LabelTree.NO);
        check.due("none kept", x.count(7), 0);
        check.due("back()", x.back(), LabelTree.NO);
        check.due("that came", x.count(1), 2);
        check.due("the next number", x.grow(0, 0, 0), 2);
        check.due("undo() to what was laid", x.undo(), 0);
        check.due("nodes", x.count(0), 2);
        check.dueText("laid over a busy one or a new one", Portrait.of(() -> {
            LabelTree y = busy();
            Check.lay(y, "k1;r3;g0,0,2;");
            return y;
        }), Portrait.of(() -> Check.laid("k1;r3;g0,0,2;")));
    }

    private static void calls() {
        check.sentence("An object is used for at most 512 calls after it has been made");
        LabelTree x = new LabelTree();
        for (int i = 0; i < 255; i++) {
            check.due("grow, call " + (2 * i + 1), x.grow(0, 0, 0), 10);
            check.due("undo, call " + (2 * i + 2), x.undo(), 0);
        }
        check.due("call 511", x.count(1), 10);
        check.due("call 512", x.grow(9, 0, 5), 10);
    }
}
