import java.util.ArrayList;
import java.util.List;
import java.util.Random;

/** Runs of calls on fresh objects (512 at most, each letter is one), each answer held against the model's. */
public final class ModelTest {
    private static final int RUNS = 800;
    private static final int CALLS = 512;
    /** More calls than an act can take: without a text, with a pattern's text, with a tree's text. */
    private static final int FEW = 4, SOME = 80, MANY = 300;
    private static final int[] WILD = {-2, -1, 24, 31, 32, 33, 64, 200, Integer.MIN_VALUE, Integer.MAX_VALUE};

    private final Random random;
    private final LabelTree x = new LabelTree();
    private final Model model = new Model();
    private final List<String> calls = new ArrayList<>();
    /** Where nodes are put in: mostly first, last, second, or anywhere. */
    private final int style;
    /** How many tags are used: the fewer, the more matches. */
    private final int tags;
    private boolean wrong = false;
    private int used = 0;
    private static long unknown = 0;
    private static long asked = 0;

    private ModelTest(int seed) {
        random = new Random(seed);
        style = seed % 4;
        tags = 1 + seed / 4 % 6;
    }

    public static void main(String[] args) {
        int runs = args.length > 0 ? Integer.parseInt(args[0]) : RUNS;
        int wrongRuns = 0;
        for (int seed = 0; seed < runs; seed++) {
            if (!new ModelTest(seed).run(seed) && ++wrongRuns >= 5) {
                break;
            }
        }
        if (wrongRuns > 0) {
            System.exit(1);
        }
        System.out.println("all " + asked + " answers are as the model's (" + unknown + " left out as too slow to tell)");
    }

    private boolean run(int seed) {
        while (used + FEW <= CALLS && !wrong) {
            act();
        }
        while (used < CALLS && !wrong) {
            lastCall();
        }
        if (wrong) {
            System.out.println("seed " + seed + ": " + String.join(" ", calls));
        }
        return !wrong;
    }

    /** A single call, so that the 512th is reached. */
    private void lastCall() {
        int k = random.nextInt(model.count(0));
        switch (random.nextInt(3)) {
            case 0: due("undo()", x.undo(), model.undo()); break;
            case 1: due("matches()", x.matches(), model.matches()); break;
            default: due("at(" + k + ")", x.at(k), model.at(k)); break;
        }
    }

    private void due(String call, long got, long want) {
        asked++;
        used++;
        calls.add(call + "=" + got);
        if (want == Model.UNKNOWN) {
            unknown++;
        } else if (got != want) {
            wrong = true;
            System.out.println(call + " answered " + got + ", the model says " + want);
        }
    }

    private int number(int bound) {
        if (random.nextInt(40) == 0) {
            return WILD[random.nextInt(WILD.length)];
        }
        return random.nextInt(bound);
    }

    private int someTag() {
        return random.nextInt(20) == 0 ? number(7) : random.nextInt(tags);
    }

    private int someNode() {
        if (random.nextInt(12) == 0) {
            return number(26);
        }
        return model.at(random.nextInt(model.count(0)));
    }

    private int somePlace(int p) {
        int kids = Math.max(model.node(p, 2), 0);
        switch (style) {
            case 0: return random.nextInt(8) == 0 ? number(kids + 3) : 0;
            case 1: return random.nextInt(8) == 0 ? number(kids + 3) : kids;
            case 2: return random.nextInt(8) == 0 ? number(kids + 3) : Math.min(1, kids);
            default: return number(kids + 1 + random.nextInt(2));
        }
    }

    private int parent() {
        return style < 3 && random.nextInt(3) != 0 ? 0 : someNode();
    }

    private void act() {
        int kind = random.nextInt(100);
        int most = kind >= 1 && kind < 8 ? SOME : MANY;
        if (kind < 10 && used + most > CALLS) {
            ask();
        } else if (kind < 1) {
            text(treeText());
            due("lay()", x.lay(), model.lay());
        } else if (kind < 8) {
            text(patternText());
            due("pattern()", x.pattern(), model.pattern());
            askMatches();
        } else if (kind < 10) {
            text(random.nextBoolean() ? treeText() : spoilt(treeText()));
            due("fault()", x.fault(), model.fault());
        } else if (kind < 25) {
            int p = parent();
            int place = somePlace(p);
            int tag = someTag();
            due("grow(" + p + ", " + place + ", " + tag + ")", x.grow(p, place, tag), model.grow(p, place, tag));
        } else if (kind < 28) {
            int v = someNode();
            due("cut(" + v + ")", x.cut(v), model.cut(v));
        } else if (kind < 33) {
            int v = someNode();
            int tag = someTag();
            due("tag(" + v + ", " + tag + ")", x.tag(v, tag), model.tag(v, tag));
        } else if (kind < 40) {
            due("undo()", x.undo(), model.undo());
        } else if (kind < 42) {
            due("keep()", x.keep(), model.keep());
        } else if (kind < 43) {
            due("back()", x.back(), model.back());
        } else {
            ask();
        }
    }

    private void ask() {
        int v = someNode();
        int w = someNode();
        int what = number(7);
        int i = number(5);
        int q = number(9);
        switch (random.nextInt(15)) {
            case 0: due("node(" + v + ", " + what + ")", x.node(v, what), model.node(v, what)); break;
            case 1: due("child(" + v + ", " + i + ")", x.child(v, i), model.child(v, i)); break;
            case 2: what = number(2); due("key(" + v + ", " + i + ", " + what + ")", x.key(v, i, what), model.key(v, i, what)); break;
            case 3: i = number(26); due("at(" + i + ")", x.at(i), model.at(i)); break;
            case 4:
                int place = somePlace(v);
                what = number(2);
                due("between(" + v + ", " + place + ", " + what + ")", x.between(v, place, what), model.between(v, place, what));
                break;
            case 5: due("ahead(" + v + ", " + w + ")", x.ahead(v, w), model.ahead(v, w)); break;
            case 6: due("above(" + v + ", " + w + ")", x.above(v, w), model.above(v, w)); break;
            case 7: due("meet(" + v + ", " + w + ")", x.meet(v, w), model.meet(v, w)); break;
            case 8: what = number(4); due("step(" + q + ", " + what + ")", x.step(q, what), model.step(q, what)); break;
            case 9: due("matches()", x.matches(), model.matches()); break;
            case 10: q = number(4); due("puts(" + q + ", " + v + ")", x.puts(q, v), model.puts(q, v)); break;
            case 11: q = number(4); due("useful(" + q + ")", x.useful(q), model.useful(q)); break;
            case 12: i = number(8) - 1; due("end(" + i + ")", x.end(i), model.end(i)); break;
            case 13: what = number(10); due("count(" + what + ")", x.count(what), model.count(what)); break;
            default: stray(); break;
        }
    }

    private void askMatches() {
        due("matches()", x.matches(), model.matches());
        for (int q = 0; q < model.count(2); q++) {
            int v = someNode();
            due("useful(" + q + ")", x.useful(q), model.useful(q));
            due("puts(" + q + ", " + v + ")", x.puts(q, v), model.puts(q, v));
        }
        int k = random.nextInt(6) - 1;
        due("end(" + k + ")", x.end(k), model.end(k));
    }

    /** A letter behind what was written last, and what is read then. */
    private void stray() {
        int letter = random.nextBoolean() ? number(130) : "/:+~[]abcdef*krg0123,;".charAt(random.nextInt(22));
        due("write(" + letter + ")", x.write(letter), model.write(letter));
        due("pattern()", x.pattern(), model.pattern());
        due("fault()", x.fault(), model.fault());
    }

    private void text(String text) {
        due("wipe()", x.wipe(), model.wipe());
        for (int i = 0; i < text.length(); i++) {
            used++;
            int got = x.write(text.charAt(i));
            int want = model.write(text.charAt(i));
            if (got != want) {
                due("write(" + (int) text.charAt(i) + ")", got, want);
            }
        }
        calls.add("'" + text + "'");
    }

    private String treeText() {
        StringBuilder text = new StringBuilder();
        if (random.nextInt(4) != 0) {
            text.append('k').append(random.nextInt(4)).append(';');
        }
        text.append('r').append(random.nextInt(tags)).append(';');
        int[] kids = new int[40];
        int size = random.nextInt(random.nextInt(4) == 0 ? 28 : 12);
        for (int v = 1; v <= size; v++) {
            int p = style < 3 && random.nextInt(3) != 0 ? 0 : random.nextInt(v);
            int place = style == 0 ? 0 : style == 1 ? kids[p] : style == 2 ? Math.min(1, kids[p]) : random.nextInt(kids[p] + 1);
            kids[p]++;
            text.append('g').append(p).append(',').append(place).append(',').append(random.nextInt(tags)).append(';');
        }
        return random.nextInt(6) == 0 ? spoilt(text.toString()) : text.toString();
    }

    private String spoilt(String text) {
        if (text.isEmpty()) {
            return text;
        }
        StringBuilder other = new StringBuilder(text);
        int place = random.nextInt(other.length());
        String letters = "krg0123456789,;;, /:+~[]abcdef*";
        switch (random.nextInt(3)) {
            case 0: other.setLength(place); break;
            case 1: other.deleteCharAt(place); break;
            default: other.insert(place, letters.charAt(random.nextInt(letters.length()))); break;
        }
        return other.toString();
    }

    private String patternText() {
        StringBuilder text = new StringBuilder();
        int steps = 1 + random.nextInt(random.nextInt(4) == 0 ? 9 : 4);
        int depth = 0;
        for (int q = 0; q < steps; q++) {
            if (q > 0) {
                if (depth > 0 && random.nextInt(3) == 0) {
                    text.append(']');
                    depth--;
                }
                if (random.nextInt(3) == 0) {
                    text.append('[');
                    depth++;
                }
                text.append("/:+~:".charAt(random.nextInt(5)));
            }
            text.append(random.nextInt(2) == 0 ? '*' : (char) ('a' + random.nextInt(tags)));
        }
        for (; depth > 0; depth--) {
            text.append(']');
        }
        return random.nextInt(6) == 0 ? spoilt(text.toString()) : text.toString();
    }
}
