import java.math.BigDecimal;
import java.util.ArrayDeque;
import java.util.ArrayList;
import java.util.Collections;
import java.util.Deque;
import java.util.List;
import java.util.TreeMap;
import java.util.regex.Matcher;
import java.util.regex.Pattern;

/**
 * The document once more, as slowly and plainly as it can be said: labels are lists of
 * decimal fractions, all questions are answered from them, matches are tried one by one.
 */
final class Model {
    private static final int BAD = -1, NO = -2, FULL = -3, NONE = -4;
    /** What a count answers where trying all matches would take too long. */
    static final long UNKNOWN = Long.MIN_VALUE;
    private static final int MOST_TRIES = 300000;

    /** A node: its tag and its label. */
    private record Node(int tag, List<String> label) { }

    /** A tree: the nodes that are there by their numbers. */
    private static final class State {
        final TreeMap<Integer, Node> nodes = new TreeMap<>();
        int came = 0;
        int kind = 0;

        State copy() {
            State other = new State();
            other.nodes.putAll(nodes);
            other.came = came;
            other.kind = kind;
            return other;
        }
    }

    private record Step(int tag, int hang, int axis) { }

    private final StringBuilder text = new StringBuilder();
    private State state;
    private final Deque<State> undos = new ArrayDeque<>();
    private final Deque<State> keeps = new ArrayDeque<>();
    private List<Step> steps = new ArrayList<>();
    private int last = 0;

    Model() {
        state = new State();
        read("k0;r0;g0,0,1;g0,1,2;g0,1,1;g1,0,3;g1,1,2;g3,0,3;g0,0,4;g2,0,1;g8,0,3;", state);
    }

    // ---- labels

    private static int compareLabels(List<String> a, List<String> b) {
        for (int i = 0; i < Math.min(a.size(), b.size()); i++) {
            int c = new BigDecimal("0." + a.get(i)).compareTo(new BigDecimal("0." + b.get(i)));
            if (c != 0) {
                return c;
            }
        }
        return Integer.compare(a.size(), b.size());
    }

    private static boolean begins(List<String> shorter, List<String> longer) {
        return shorter.size() <= longer.size() && longer.subList(0, shorter.size()).equals(shorter);
    }

    private static List<String> parentLabel(List<String> label) {
        return label.subList(0, label.size() - 1);
    }

    private static List<Integer> inOrder(State s) {
        List<Integer> all = new ArrayList<>(s.nodes.keySet());
        all.sort((v, w) -> compareLabels(s.nodes.get(v).label, s.nodes.get(w).label));
        return all;
    }

    private static List<Integer> children(State s, int p) {
        List<Integer> kids = new ArrayList<>();
        List<String> label = s.nodes.get(p).label;
        for (int v : inOrder(s)) {
            List<String> other = s.nodes.get(v).label;
            if (other.size() == label.size() + 1 && begins(label, other)) {
                kids.add(v);
            }
        }
        return kids;
    }

    /** The key, as its figures, or null. */
    private static String chosen(State s, int p, int place) {
        List<Integer> kids = children(s, p);
        BigDecimal low = place == 0 ? BigDecimal.ZERO : valueOfKey(s, kids.get(place - 1));
        BigDecimal high = place == kids.size() ? BigDecimal.ONE : valueOfKey(s, kids.get(place));
        for (int figures = 1; figures <= 9; figures++) {
            List<String> several = new ArrayList<>();
            BigDecimal unit = BigDecimal.ONE.movePointLeft(figures);
            BigDecimal at = low.setScale(figures, java.math.RoundingMode.FLOOR).add(unit);
            for (; at.compareTo(high) < 0; at = at.add(unit)) {
                String key = at.toPlainString().substring(2);
                if (!key.endsWith("0")) {
                    several.add(key);
                }
            }
            if (!several.isEmpty()) {
                switch (s.kind) {
                    case 0: return several.get((several.size() - 1) / 2);
                    case 1: return several.get(0);
                    case 2: return several.get(several.size() - 1);
                    default: return several.size() > 1 ? several.get(1) : several.get(0);
                }
            }
        }
        return null;
    }

    private static BigDecimal valueOfKey(State s, int v) {
        List<String> label = s.nodes.get(v).label;
        return new BigDecimal("0." + label.get(label.size() - 1));
    }

    private static int putIn(State s, int p, String key, int tag) {
        List<String> label = new ArrayList<>(s.nodes.get(p).label);
        label.add(key);
        s.nodes.put(s.came, new Node(tag, label));
        return s.came++;
    }

    // ---- texts

    private static final Pattern ITEM = Pattern.compile("(?:(k)|(r))(\\d\\d?);|(g)(\\d\\d?),(\\d\\d?),(\\d\\d?);");

    private static int read(String text, State s) {
        Matcher m = ITEM.matcher(text);
        int place = 0;
        while (place < text.length()) {
            if (!m.find(place) || m.start() != place || !apply(m, s, place)) {
                return place;
            }
            place = m.end();
        }
        return NONE;
    }

    private static boolean apply(Matcher m, State s, int place) {
        if (m.group(1) != null) {
            s.kind = Integer.parseInt(m.group(3));
            return place == 0 && s.kind < 4;
        }
        if (m.group(2) != null) {
            int tag = Integer.parseInt(m.group(3));
            if (s.came != 0 || tag > 5) {
                return false;
            }
            s.nodes.put(0, new Node(tag, Collections.emptyList()));
            s.came = 1;
            return true;
        }
        int p = Integer.parseInt(m.group(5));
        int at = Integer.parseInt(m.group(6));
        int tag = Integer.parseInt(m.group(7));
        if (s.came == 0 || s.came > 23 || p >= s.came || at > children(s, p).size() || tag > 5) {
            return false;
        }
        String key = chosen(s, p, at);
        if (key == null) {
            return false;
        }
        putIn(s, p, key, tag);
        return true;
    }

    /** Reads a pattern by descent; a fault is thrown as its place. */
    private static final class Descent {
        final String text;
        final List<Step> steps = new ArrayList<>();
        int place = 0;
        int last = 0;

        Descent(String text) {
            this.text = text;
        }

        static final class Fault extends Exception {
            private static final long serialVersionUID = 1;
        }

        private char here() {
            return place < text.length() ? text.charAt(place) : 0;
        }

        void whole() throws Fault {
            last = path(-1, -1);
            if (place < text.length()) {
                throw new Fault();
            }
        }

        /** A step and what follows it on its level: the last one's number. */
        private int path(int hang, int axis) throws Fault {
            int latest = oneStep(hang, axis);
            while (here() != 0 && "/:+~".indexOf(here()) >= 0) {
                int next = axis();
                latest = oneStep(latest, next);
            }
            return latest;
        }

        private int axis() throws Fault {
            int axis = here() == 0 ? -1 : "/:+~".indexOf(here());
            if (axis < 0) {
                throw new Fault();
            }
            place++;
            return axis;
        }

        private int oneStep(int hang, int axis) throws Fault {
            int tag = here() == 0 ? -1 : "abcdef*".indexOf(here());
            if (tag < 0 || steps.size() == 8) {
                throw new Fault();
            }
            place++;
            int number = steps.size();
            steps.add(new Step(tag, hang, axis));
            while (here() == '[') {
                place++;
                int first = axis();
                path(number, first);
                if (here() != ']') {
                    throw new Fault();
                }
                place++;
            }
            return number;
        }
    }

    // ---- matches

    private long total;
    private final long[][] put = new long[8][24];
    private int tries;

    /** Whether all matches could be tried. */
    private boolean tryAll() {
        total = 0;
        tries = 0;
        for (long[] row : put) {
            java.util.Arrays.fill(row, 0);
        }
        return tryStep(0, new int[8]);
    }

    private boolean tryStep(int q, int[] nodes) {
        if (q == steps.size()) {
            total++;
            for (int i = 0; i < q; i++) {
                put[i][nodes[i]]++;
            }
            return true;
        }
        Step step = steps.get(q);
        for (int v : state.nodes.keySet()) {
            if (++tries > MOST_TRIES) {
                return false;
            }
            boolean fits = step.tag == 6 || step.tag == state.nodes.get(v).tag;
            if (fits && (q == 0 || stands(nodes[step.hang], v, step.axis))) {
                nodes[q] = v;
                if (!tryStep(q + 1, nodes)) {
                    return false;
                }
            }
        }
        return true;
    }

    private boolean stands(int v, int w, int axis) {
        List<String> a = state.nodes.get(v).label;
        List<String> b = state.nodes.get(w).label;
        boolean below = b.size() > a.size() && begins(a, b);
        if (axis == 0) {
            return below && b.size() == a.size() + 1;
        }
        if (axis == 1) {
            return below;
        }
        if (a.isEmpty() || b.isEmpty() || !parentLabel(a).equals(parentLabel(b))) {
            return false;
        }
        if (axis == 3) {
            return compareLabels(a, b) < 0;
        }
        for (int p : state.nodes.keySet()) {
            if (state.nodes.get(p).label.equals(parentLabel(a))) {
                List<Integer> kids = children(state, p);
                return kids.indexOf(w) == kids.indexOf(v) + 1;
            }
        }
        return false;
    }

    // ---- the face

    int write(int letter) {
        if (letter < 32 || letter > 126) {
            return BAD;
        }
        if (text.length() == 200) {
            return FULL;
        }
        text.append((char) letter);
        return text.length();
    }

    int wipe() {
        int size = text.length();
        text.setLength(0);
        return size;
    }

    int fault() {
        return read(text.toString(), new State());
    }

    int lay() {
        State s = new State();
        if (read(text.toString(), s) != NONE || s.came == 0) {
            return NO;
        }
        state = s;
        steps = new ArrayList<>();
        undos.clear();
        keeps.clear();
        return s.nodes.size();
    }

    private boolean there(int v) {
        return state.nodes.containsKey(v);
    }

    int node(int v, int what) {
        if (!there(v) || what < 0 || what > 5) {
            return BAD;
        }
        List<String> label = state.nodes.get(v).label;
        switch (what) {
            case 0: return state.nodes.get(v).tag;
            case 1:
                for (int p : state.nodes.keySet()) {
                    if (v != 0 && state.nodes.get(p).label.equals(parentLabel(label))) {
                        return p;
                    }
                }
                return NONE;
            case 2: return children(state, v).size();
            case 3: return label.size();
            case 4: return inOrder(state).indexOf(v);
            default: return (int) state.nodes.values().stream().filter(n -> begins(label, n.label)).count() - 1;
        }
    }

    int child(int v, int i) {
        if (!there(v) || i < 0) {
            return BAD;
        }
        List<Integer> kids = children(state, v);
        return i < kids.size() ? kids.get(i) : NONE;
    }

    int key(int v, int i, int what) {
        if (!there(v) || i < 0 || what < 0 || what > 1) {
            return BAD;
        }
        List<String> label = state.nodes.get(v).label;
        return i < label.size() ? partOf(label.get(i), what) : NONE;
    }

    private static int partOf(String key, int what) {
        return what == 0 ? Integer.parseInt(key) : key.length();
    }

    int at(int k) {
        if (k < 0) {
            return BAD;
        }
        return k < state.nodes.size() ? inOrder(state).get(k) : NONE;
    }

    private boolean place(int p, int place) {
        return there(p) && place >= 0 && place <= children(state, p).size();
    }

    private void act() {
        undos.addLast(state.copy());
        if (undos.size() > 8) {
            undos.removeFirst();
        }
    }

    int grow(int p, int place, int tag) {
        if (!place(p, place) || tag < 0 || tag > 5) {
            return BAD;
        }
        if (state.came == 24) {
            return FULL;
        }
        String key = chosen(state, p, place);
        if (key == null) {
            return NO;
        }
        act();
        return putIn(state, p, key, tag);
    }

    int cut(int v) {
        if (!there(v)) {
            return BAD;
        }
        if (v == 0) {
            return NO;
        }
        act();
        int size = state.nodes.size();
        List<String> label = state.nodes.get(v).label;
        state.nodes.values().removeIf(n -> begins(label, n.label));
        return size - state.nodes.size();
    }

    int tag(int v, int tag) {
        if (!there(v) || tag < 0 || tag > 5) {
            return BAD;
        }
        Node n = state.nodes.get(v);
        if (n.tag == tag) {
            return NO;
        }
        act();
        state.nodes.put(v, new Node(tag, n.label));
        return n.tag;
    }

    int undo() {
        if (undos.isEmpty()) {
            return NO;
        }
        state = undos.removeLast();
        return undos.size();
    }

    int between(int p, int place, int what) {
        if (!place(p, place) || what < 0 || what > 1) {
            return BAD;
        }
        String key = chosen(state, p, place);
        return key == null ? NONE : partOf(key, what);
    }

    int ahead(int v, int w) {
        if (!there(v) || !there(w)) {
            return BAD;
        }
        return compareLabels(state.nodes.get(v).label, state.nodes.get(w).label) < 0 ? 1 : 0;
    }

    int above(int v, int w) {
        if (!there(v) || !there(w)) {
            return BAD;
        }
        return v != w && begins(state.nodes.get(v).label, state.nodes.get(w).label) ? 1 : 0;
    }

    int meet(int v, int w) {
        if (!there(v) || !there(w)) {
            return BAD;
        }
        int best = 0;
        for (int u : state.nodes.keySet()) {
            List<String> label = state.nodes.get(u).label;
            if (begins(label, state.nodes.get(v).label) && begins(label, state.nodes.get(w).label)
                    && label.size() > state.nodes.get(best).label.size()) {
                best = u;
            }
        }
        return best;
    }

    int pattern() {
        Descent descent = new Descent(text.toString());
        try {
            descent.whole();
        } catch (Descent.Fault fault) {
            return -10 - descent.place;
        }
        steps = descent.steps;
        last = descent.last;
        return steps.size();
    }

    private boolean isStep(int q) {
        return q >= 0 && q < steps.size();
    }

    int step(int q, int what) {
        if (!isStep(q) || what < 0 || what > 2) {
            return BAD;
        }
        Step step = steps.get(q);
        if (what == 0) {
            return step.tag;
        }
        int found = what == 1 ? step.hang : step.axis;
        return found < 0 ? NONE : found;
    }

    long matches() {
        if (steps.isEmpty()) {
            return NO;
        }
        return tryAll() ? total : UNKNOWN;
    }

    long puts(int q, int v) {
        if (!isStep(q) || !there(v)) {
            return BAD;
        }
        return tryAll() ? put[q][v] : UNKNOWN;
    }

    long useful(int q) {
        if (!isStep(q)) {
            return BAD;
        }
        if (!tryAll()) {
            return UNKNOWN;
        }
        int bits = 0;
        for (int v = 0; v < 24; v++) {
            bits |= put[q][v] > 0 ? 1 << v : 0;
        }
        return bits;
    }

    long end(int k) {
        if (k < -1) {
            return BAD;
        }
        if (steps.isEmpty()) {
            return NO;
        }
        if (!tryAll()) {
            return UNKNOWN;
        }
        List<Integer> ends = new ArrayList<>(inOrder(state));
        ends.removeIf(v -> put[last][v] == 0);
        if (k == -1) {
            return ends.size();
        }
        return k < ends.size() ? ends.get(k) : NONE;
    }

    int keep() {
        if (keeps.size() == 2) {
            return FULL;
        }
        keeps.addLast(state.copy());
        return keeps.size();
    }

    int back() {
        if (keeps.isEmpty()) {
            return NO;
        }
        state = keeps.removeLast();
        undos.clear();
        return keeps.size();
    }

    int count(int what) {
        switch (what) {
            case 0: return state.nodes.size();
            case 1: return state.came;
            case 2: return steps.size();
            case 3:
                return state.nodes.values().stream().flatMap(n -> n.label.stream()).mapToInt(String::length).max().orElse(0);
            case 4: return state.nodes.values().stream().mapToInt(n -> n.label.size()).max().orElse(0);
            case 5: return state.kind;
            case 6: return undos.size();
            case 7: return keeps.size();
            case 8: return text.length();
            default: return BAD;
        }
    }
}
