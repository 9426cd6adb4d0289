import java.util.ArrayList;
import java.util.List;
import java.util.function.Supplier;
import java.util.function.ToLongFunction;

/**
 * 'Of several the first; nothing changes then.' Each call that can be refused, in several states: its answer, and that
 * all that can be asked behind it is as if it had not been called. Calls that only ask are held to the same.
 */
public final class RefusedTest {
    private static final Check check = new Check();
    private static final int LEAST = Integer.MIN_VALUE, MOST = Integer.MAX_VALUE;

    /** A state, with what is told of it by its name. */
    private record State(String name, Supplier<LabelTree> maker, String portrait) {
        static State of(String name, Supplier<LabelTree> maker) {
            return new State(name, maker, Portrait.of(maker));
        }
    }

    /** A call, with the answer that is due. */
    private record Call(String name, ToLongFunction<LabelTree> call, long want) { }

    public static void main(String[] args) {
        check.sentence("Of several the first; nothing changes then.");
        State fresh = State.of("new", LabelTree::new);
        State busy = State.of("busy", RefusedTest::busy);
        State full = State.of("full", RefusedTest::full);
        State keyless = State.of("without a key", RefusedTest::keyless);
        State alone = State.of("a root alone", () -> Check.laid("r3;"));
        for (State state : List.of(fresh, busy, full, keyless, alone)) {
            refused(state, always());
        }
        refused(fresh, ofNew());
        refused(busy, ofBusy());
        refused(full, ofFull());
        refused(keyless, ofKeyless());
        refused(alone, ofAlone());
        for (State state : List.of(fresh, busy, full, keyless, alone)) {
            asked(state);
        }
        wrongTexts();
        check.end();
    }

    /** Nodes put in, cut and tagged, a pattern, one tree kept, a text with a fault. */
    private static LabelTree busy() {
        LabelTree x = new LabelTree();
        Check.pattern(x, "*[:d]/*");
        x.grow(0, 2, 3);
        x.grow(10, 0, 4);
        x.keep();
        x.cut(1);
        x.tag(2, 5);
        x.grow(6, 0, 3);
        x.wipe();
        Check.write(x, "k1;r2;g0,0,1;g0,2,2;");
        return x;
    }

    /** 24 came, 200 letters, two kept, eight that can be undone, eight steps. */
    private static LabelTree full() {
        LabelTree x = new LabelTree();
        Check.pattern(x, "*[/*]:*[/*]:*[/*]:*~*");
        x.keep();
        for (int v = 10; v < 23; v++) {
            x.grow(v - 10, 0, v % 6);
        }
        x.keep();
        x.grow(9, 1, 5);
        x.cut(4);
        x.tag(9, 0);
        x.wipe();
        for (int i = 0; i < 200; i++) {
            x.write("r0;".charAt(i % 3));
        }
        return x;
    }

    /** No key ahead of all children of the root, nine of them; one that can be undone. */
    private static LabelTree keyless() {
        LabelTree x = Check.laid("k1;r0;g0,0,0;g0,0,1;g0,0,2;g0,0,3;g0,0,4;g0,0,5;g0,0,0;g0,0,1;g0,0,2;");
        x.tag(9, 3);
        Check.pattern(x, "a/*");
        return x;
    }

    private static void refused(State state, List<Call> calls) {
        for (Call c : calls) {
            check.due(state.name + ", " + c.name, c.call.applyAsLong(state.maker.get()), c.want);
            unchanged(state, c);
        }
    }

    private static void unchanged(State state, Call c) {
        check.dueText(state.name + ", behind " + c.name, Portrait.of(() -> {
            LabelTree x = state.maker.get();
            c.call.applyAsLong(x);
            return x;
        }), state.portrait);
    }

    private static void add(List<Call> calls, long want, String name, ToLongFunction<LabelTree> call) {
        calls.add(new Call(name, call, want));
    }

    /** What is BAD in any state. */
    private static List<Call> always() {
        List<Call> calls = new ArrayList<>();
        int bad = LabelTree.BAD;
        int[] letters = {31, 127, -1, LEAST, MOST};
        for (int letter : letters) {
            add(calls, bad, "write(" + letter + ")", x -> x.write(letter));
        }
        int[] nodes = {-1, 24, 32, LEAST, MOST};
        for (int v : nodes) {
            add(calls, bad, "node(" + v + ", 0)", x -> x.node(v, 0));
            add(calls, bad, "child(" + v + ", 0)", x -> x.child(v, 0));
            add(calls, bad, "key(" + v + ", 0, 0)", x -> x.key(v, 0, 0));
            add(calls, bad, "grow(" + v + ", 0, 0)", x -> x.grow(v, 0, 0));
            add(calls, bad, "cut(" + v + ")", x -> x.cut(v));
            add(calls, bad, "tag(" + v + ", 0)", x -> x.tag(v, 0));
            add(calls, bad, "between(" + v + ", 0, 0)", x -> x.between(v, 0, 0));
            add(calls, bad, "ahead(" + v + ", 0)", x -> x.ahead(v, 0));
            add(calls, bad, "above(0, " + v + ")", x -> x.above(0, v));
            add(calls, bad, "meet(" + v + ", " + v + ")", x -> x.meet(v, v));
            add(calls, bad, "puts(0, " + v + ")", x -> x.puts(0, v));
        }
        int[] others = {-1, LEAST};
        for (int i : others) {
            add(calls, bad, "child(0, " + i + ")", x -> x.child(0, i));
            add(calls, bad, "key(0, " + i + ", 0)", x -> x.key(0, i, 0));
            add(calls, bad, "at(" + i + ")", x -> x.at(i));
            add(calls, bad, "step(" + i + ", 0)", x -> x.step(i, 0));
            add(calls, bad, "puts(" + i + ", 0)", x -> x.puts(i, 0));
            add(calls, bad, "useful(" + i + ")", x -> x.useful(i));
            add(calls, bad, "end(" + (i == -1 ? -2 : i) + ")", x -> x.end(i == -1 ? -2 : i));
            add(calls, bad, "count(" + i + ")", x -> x.count(i));
        }
        add(calls, bad, "node(0, 6)", x -> x.node(0, 6));
        add(calls, bad, "node(0, -1)", x -> x.node(0, -1));
        add(calls, bad, "key(0, 0, 2)", x -> x.key(0, 0, 2));
        add(calls, bad, "key(0, 0, -1)", x -> x.key(0, 0, -1));
        add(calls, bad, "grow(0, -1, 0)", x -> x.grow(0, -1, 0));
        add(calls, bad, "grow(0, 24, 0)", x -> x.grow(0, 24, 0));
        add(calls, bad, "grow(0, 0, 6)", x -> x.grow(0, 0, 6));
        add(calls, bad, "grow(0, 0, -1)", x -> x.grow(0, 0, -1));
        add(calls, bad, "tag(0, 6)", x -> x.tag(0, 6));
        add(calls, bad, "tag(0, -1)", x -> x.tag(0, -1));
        add(calls, bad, "between(0, -1, 0)", x -> x.between(0, -1, 0));
        add(calls, bad, "between(0, 24, 0)", x -> x.between(0, 24, 0));
        add(calls, bad, "between(0, 0, 2)", x -> x.between(0, 0, 2));
        add(calls, bad, "step(8, 0)", x -> x.step(8, 0));
        add(calls, bad, "step(0, 3)", x -> x.step(0, 3));
        add(calls, bad, "puts(8, 0)", x -> x.puts(8, 0));
        add(calls, bad, "useful(8)", x -> x.useful(8));
        add(calls, bad, "count(9)", x -> x.count(9));
        add(calls, LabelTree.NO, "cut(0)", x -> x.cut(0));
        add(calls, LabelTree.NONE, "node(0, 1)", x -> x.node(0, 1));
        add(calls, LabelTree.NONE, "key(0, 0, 0)", x -> x.key(0, 0, 0));
        add(calls, LabelTree.NONE, "at(24)", x -> x.at(24));
        add(calls, LabelTree.NONE, "child(0, 24)", x -> x.child(0, 24));
        return calls;
    }

    private static List<Call> ofNew() {
        List<Call> calls = new ArrayList<>();
        add(calls, LabelTree.NO, "lay()", x -> x.lay());
        add(calls, LabelTree.NO, "tag(7, 4)", x -> x.tag(7, 4));
        add(calls, LabelTree.NO, "undo()", x -> x.undo());
        add(calls, LabelTree.NO, "back()", x -> x.back());
        add(calls, LabelTree.NO, "matches()", x -> x.matches());
        add(calls, LabelTree.NO, "end(-1)", x -> x.end(-1));
        add(calls, LabelTree.NO, "end(0)", x -> x.end(0));
        add(calls, -10, "pattern()", x -> x.pattern());
        add(calls, LabelTree.NONE, "fault()", x -> x.fault());
        add(calls, LabelTree.BAD, "puts(0, 0)", x -> x.puts(0, 0));
        add(calls, LabelTree.BAD, "useful(0)", x -> x.useful(0));
        add(calls, LabelTree.BAD, "step(0, 0)", x -> x.step(0, 0));
        add(calls, LabelTree.BAD, "step(0, 1)", x -> x.step(0, 1));
        add(calls, LabelTree.BAD, "step(0, 2)", x -> x.step(0, 2));
        add(calls, LabelTree.BAD, "grow(0, 5, 0)", x -> x.grow(0, 5, 0));
        add(calls, LabelTree.BAD, "grow(10, 0, 0)", x -> x.grow(10, 0, 0));
        add(calls, LabelTree.BAD, "cut(10)", x -> x.cut(10));
        add(calls, LabelTree.BAD, "tag(10, 6)", x -> x.tag(10, 6));
        add(calls, LabelTree.NONE, "at(10)", x -> x.at(10));
        add(calls, LabelTree.NONE, "child(0, 4)", x -> x.child(0, 4));
        add(calls, LabelTree.NONE, "key(9, 3, 0)", x -> x.key(9, 3, 0));
        return calls;
    }

    private static List<Call> ofBusy() {
        List<Call> calls = new ArrayList<>();
        add(calls, LabelTree.NO, "lay()", x -> x.lay());
        add(calls, 13, "fault()", x -> x.fault());
        add(calls, -10, "pattern()", x -> x.pattern());
        add(calls, LabelTree.BAD, "cut(1), cut", x -> x.cut(1));
        add(calls, LabelTree.BAD, "cut(4), cut with 1", x -> x.cut(4));
        add(calls, LabelTree.BAD, "tag(1, 0), cut", x -> x.tag(1, 0));
        add(calls, LabelTree.BAD, "grow(5, 0, 0), cut", x -> x.grow(5, 0, 0));
        add(calls, LabelTree.BAD, "puts(0, 1), cut", x -> x.puts(0, 1));
        add(calls, LabelTree.NO, "tag(2, 5), it is", x -> x.tag(2, 5));
        add(calls, LabelTree.BAD, "tag(13, 0)", x -> x.tag(13, 0));
        add(calls, LabelTree.BAD, "grow(0, 5, 0)", x -> x.grow(0, 5, 0));
        add(calls, LabelTree.BAD, "useful(3)", x -> x.useful(3));
        add(calls, LabelTree.NONE, "step(0, 1)", x -> x.step(0, 1));
        add(calls, LabelTree.NONE, "end(23)", x -> x.end(23));
        return calls;
    }

    private static List<Call> ofFull() {
        List<Call> calls = new ArrayList<>();
        add(calls, LabelTree.FULL, "write(97)", x -> x.write(97));
        add(calls, LabelTree.FULL, "write(32)", x -> x.write(32));
        add(calls, LabelTree.FULL, "write(126)", x -> x.write(126));
        add(calls, LabelTree.BAD, "write(31), full", x -> x.write(31));
        add(calls, LabelTree.NO, "lay()", x -> x.lay());
        add(calls, 3, "fault()", x -> x.fault());
        add(calls, -10, "pattern()", x -> x.pattern());
        add(calls, LabelTree.FULL, "grow(0, 0, 0)", x -> x.grow(0, 0, 0));
        add(calls, LabelTree.FULL, "grow(23, 0, 5)", x -> x.grow(23, 0, 5));
        add(calls, LabelTree.BAD, "grow(23, 1, 5), full", x -> x.grow(23, 1, 5));
        add(calls, LabelTree.BAD, "grow(4, 0, 5), cut and full", x -> x.grow(4, 0, 5));
        add(calls, LabelTree.BAD, "grow(0, 0, 6), full", x -> x.grow(0, 0, 6));
        add(calls, LabelTree.FULL, "keep()", x -> x.keep());
        add(calls, LabelTree.NO, "tag(9, 0), it is", x -> x.tag(9, 0));
        add(calls, LabelTree.BAD, "cut(4), cut", x -> x.cut(4));
        return calls;
    }

    private static List<Call> ofKeyless() {
        List<Call> calls = new ArrayList<>();
        add(calls, LabelTree.NO, "grow(0, 0, 0)", x -> x.grow(0, 0, 0));
        add(calls, LabelTree.BAD, "grow(0, 0, 6), without a key", x -> x.grow(0, 0, 6));
        add(calls, LabelTree.BAD, "grow(0, 10, 0)", x -> x.grow(0, 10, 0));
        add(calls, LabelTree.NONE, "between(0, 0, 0)", x -> x.between(0, 0, 0));
        add(calls, LabelTree.NONE, "between(0, 0, 1)", x -> x.between(0, 0, 1));
        add(calls, LabelTree.BAD, "between(0, 0, 2), without a key", x -> x.between(0, 0, 2));
        add(calls, LabelTree.NO, "back()", x -> x.back());
        return calls;
    }

    private static List<Call> ofAlone() {
        List<Call> calls = new ArrayList<>();
        add(calls, LabelTree.NO, "tag(0, 3), it is", x -> x.tag(0, 3));
        add(calls, LabelTree.NO, "undo()", x -> x.undo());
        add(calls, LabelTree.NO, "back()", x -> x.back());
        add(calls, LabelTree.NONE, "child(0, 0)", x -> x.child(0, 0));
        add(calls, LabelTree.NONE, "at(1)", x -> x.at(1));
        add(calls, LabelTree.BAD, "grow(0, 1, 0)", x -> x.grow(0, 1, 0));
        add(calls, LabelTree.BAD, "grow(1, 0, 0)", x -> x.grow(1, 0, 0));
        add(calls, LabelTree.BAD, "cut(1)", x -> x.cut(1));
        add(calls, LabelTree.BAD, "meet(0, 1)", x -> x.meet(0, 1));
        return calls;
    }

    /** Calls that only ask, whatever they answer. */
    private static void asked(State state) {
        List<Call> calls = new ArrayList<>();
        add(calls, 0, "fault()", x -> x.fault());
        add(calls, 0, "node(9, 4)", x -> x.node(9, 4));
        add(calls, 0, "child(0, 0)", x -> x.child(0, 0));
        add(calls, 0, "key(9, 0, 0)", x -> x.key(9, 0, 0));
        add(calls, 0, "at(1)", x -> x.at(1));
        add(calls, 0, "between(0, 1, 0)", x -> x.between(0, 1, 0));
        add(calls, 0, "ahead(0, 9)", x -> x.ahead(0, 9));
        add(calls, 0, "above(0, 9)", x -> x.above(0, 9));
        add(calls, 0, "meet(8, 9)", x -> x.meet(8, 9));
        add(calls, 0, "step(0, 0)", x -> x.step(0, 0));
        add(calls, 0, "matches()", x -> x.matches());
        add(calls, 0, "puts(0, 0)", x -> x.puts(0, 0));
        add(calls, 0, "useful(0)", x -> x.useful(0));
        add(calls, 0, "end(0)", x -> x.end(0));
        add(calls, 0, "end(-1)", x -> x.end(-1));
        for (int what = 0; what <= 8; what++) {
            int which = what;
            add(calls, 0, "count(" + what + ")", x -> x.count(which));
        }
        for (Call c : calls) {
            unchanged(state, c);
        }
    }

    /** Texts that are refused as trees and as patterns change nothing but THE TEXT. */
    private static void wrongTexts() {
        String[] texts = {"k2;", "k2;r1;r1;", "k2;r1;g0,0,0;g0,3,0;", "r", "g0,0,0;", "a/b/", "a[/b[:c]", "*/*/*/*/*/*/*/*/*", "a]"};
        for (String text : texts) {
            State written = State.of("'" + text + "'", () -> {
                LabelTree x = busy();
                x.wipe();
                Check.write(x, text);
                return x;
            });
            int fault = Check.fault(new LabelTree(), text);
            List<Call> calls = new ArrayList<>();
            add(calls, LabelTree.NO, "lay()", x -> x.lay());
            add(calls, fault, "fault()", x -> x.fault());
            add(calls, Check.pattern(new LabelTree(), text), "pattern()", x -> x.pattern());
            refused(written, calls);
        }
    }
}
