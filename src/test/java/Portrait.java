import java.util.function.Consumer;
import java.util.function.Supplier;

/**
 * All that can be asked of an object, as one text. Each part is asked of an object made anew, so that
 * no part sees what another one changes, and none is asked beyond its 512th call.
 */
final class Portrait {
    private static final int[] NUMBERS = {-1, 0, 1, 2, 3, 4, 5, 6, 7, 8, 9, 10, 11, 12, 13, 14, 15, 16, 17, 18, 19, 20, 21,
        22, 23, 24};

    private final StringBuilder all = new StringBuilder();
    private final Supplier<LabelTree> maker;

    private Portrait(Supplier<LabelTree> maker) {
        this.maker = maker;
    }

    static String of(Supplier<LabelTree> maker) {
        Portrait p = new Portrait(maker);
        p.part("tree", p::tree);
        p.part("nodes", p::nodes);
        p.part("keys", p::keys);
        p.part("pattern", p::pattern);
        for (int q = 0; q < 8; q++) {
            int step = q;
            p.part("step " + q, x -> p.step(x, step));
        }
        p.part("the text's fault", x -> p.add(x.fault()));
        p.part("the text as a pattern", p::textAsPattern);
        p.part("the text as a tree", p::textAsTree);
        for (int n = 1; n <= 8; n++) {
            int times = n;
            p.part("undone " + n, x -> p.undone(x, times));
        }
        for (int n = 1; n <= 2; n++) {
            int times = n;
            p.part("back " + n, x -> p.back(x, times));
        }
        p.part("grown", x -> p.add(x.grow(0, 0, 0)));
        p.part("kept", x -> p.add(x.keep()));
        return p.all.toString();
    }

    private void part(String name, Consumer<LabelTree> asking) {
        all.append('\n').append(name).append(':');
        asking.accept(maker.get());
    }

    private void add(long answer) {
        all.append(' ').append(answer);
    }

    private void tree(LabelTree x) {
        for (int what = 0; what <= 8; what++) {
            add(x.count(what));
        }
        for (int k : NUMBERS) {
            add(x.at(k));
        }
        for (int v : NUMBERS) {
            add(x.node(v, 0));
            add(x.node(v, 1));
        }
    }

    private void nodes(LabelTree x) {
        for (int v : NUMBERS) {
            for (int what = 2; what <= 5; what++) {
                add(x.node(v, what));
            }
            add(x.ahead(v, 1));
            add(x.above(1, v));
            add(x.meet(v, 9));
        }
    }

    private void keys(LabelTree x) {
        for (int v : NUMBERS) {
            int last = x.node(v, 3) - 1;
            add(x.key(v, last, 0));
            add(x.key(v, last, 1));
            add(x.child(v, 0));
            add(x.between(v, 0, 0));
            add(x.between(v, 0, 1));
            add(x.between(0, v, 0));
        }
    }

    private void pattern(LabelTree x) {
        add(x.matches());
        for (int k : NUMBERS) {
            add(x.end(k));
        }
    }

    private void step(LabelTree x, int q) {
        for (int what = 0; what < 3; what++) {
            add(x.step(q, what));
        }
        add(x.useful(q));
        for (int v : NUMBERS) {
            add(x.puts(q, v));
        }
    }

    private void textAsPattern(LabelTree x) {
        add(x.pattern());
        for (int q = 0; q < 8; q++) {
            for (int what = 0; what < 3; what++) {
                add(x.step(q, what));
            }
        }
    }

    private void textAsTree(LabelTree x) {
        add(x.lay());
        shape(x);
    }

    private void undone(LabelTree x, int times) {
        for (int i = 0; i < times; i++) {
            add(x.undo());
        }
        shape(x);
    }

    private void back(LabelTree x, int times) {
        for (int i = 0; i < times; i++) {
            add(x.back());
        }
        shape(x);
        add(x.undo());
        add(x.matches());
    }

    /** The nodes that are there, with tags, parents and keys, in fewer than two hundred calls. */
    private void shape(LabelTree x) {
        for (int what = 0; what <= 8; what++) {
            add(x.count(what));
        }
        for (int v : NUMBERS) {
            int depth = x.node(v, 3);
            if (depth >= 0) {
                add(v);
                add(x.node(v, 0));
                add(x.node(v, 1));
                add(x.key(v, depth - 1, 0));
                add(x.key(v, depth - 1, 1));
            }
        }
    }
}
