import java.util.Arrays;

/**
 * A store of ordered trees whose nodes bear labels that never change, and of
 * patterns that are matched against them. ../shared/DOC.md says what it promises.
 */
public final class LabelTree {
    public static final int BAD = -1, NO = -2, FULL = -3, NONE = -4;

    private static final int NODES = 24;
    private static final int TAGS = 6;
    private static final int KINDS = 4;
    private static final int LETTERS = 200;
    private static final int STEPS = 8;
    private static final int UNDOS = 8;
    private static final int KEEPS = 2;

    /** What a search inside the class finds when there is nothing; never an answer by itself. */
    private static final int NOTHING = -1;

    private static final String FIRST_TREE =
            "k0;r0;g0,0,1;g0,1,2;g0,1,1;g1,0,3;g1,1,2;g3,0,3;g0,0,4;g2,0,1;g8,0,3;";

    private final Letters text = new Letters();
    private final TreeReader treeReader = new TreeReader();
    private final PatternReader patternReader = new PatternReader();
    private final Tree tree = new Tree();
    /** Texts are read into drafts, so that a fault leaves what stands untouched. */
    private final Tree treeDraft = new Tree();
    private final Order order = new Order();
    private final Past past = new Past();
    private final Tree keptFirst = new Tree();
    private final Tree keptSecond = new Tree();
    private int keptSize;
    private final Pattern steps = new Pattern();
    private final Pattern stepsDraft = new Pattern();
    private final Matcher matcher = new Matcher(tree, order, steps);
    /** False while the tree or the pattern has changed since the matcher last ran. */
    private boolean matched;

    public LabelTree() {
        for (int i = 0; i < FIRST_TREE.length(); i++) {
            text.add(FIRST_TREE.charAt(i));
        }
        treeReader.read(text, tree);
        text.clear();
        settle();
    }

    // ---- trees

    public int write(int letter) {
        if (letter < 32 || letter > 126) {
            return BAD;
        }
        if (text.isFull()) {
            return FULL;
        }
        text.add(letter);
        return text.size();
    }

    public int wipe() {
        int size = text.size();
        text.clear();
        return size;
    }

    public int fault() {
        int place = treeReader.read(text, treeDraft);
        return place < 0 ? NONE : place;
    }

    public int lay() {
        int place = treeReader.read(text, treeDraft);
        if (place >= 0 || !treeDraft.isThere(0)) {
            return NO;
        }
        tree.copyFrom(treeDraft);
        steps.clear();
        past.clear();
        keptSize = 0;
        settle();
        return order.size();
    }

    public int node(int v, int what) {
        if (!tree.isThere(v)) {
            return BAD;
        }
        int rank = order.rankOf(v);
        switch (what) {
            case 0:
                return tree.tagOf(v);
            case 1:
                return v == 0 ? NONE : tree.parentOf(v);
            case 2:
                return order.kidsAt(rank);
            case 3:
                return order.levelAt(rank);
            case 4:
                return rank;
            case 5:
                return order.belowAt(rank);
            default:
                return BAD;
        }
    }

    public int child(int v, int i) {
        if (!tree.isThere(v) || i < 0) {
            return BAD;
        }
        int found = tree.childAt(v, i);
        return found < 0 ? NONE : found;
    }

    public int key(int v, int i, int what) {
        if (!tree.isThere(v) || i < 0 || !isKeyPart(what)) {
            return BAD;
        }
        int level = order.levelAt(order.rankOf(v));
        if (i >= level) {
            return NONE;
        }
        return keyPart(tree.spotOf(climb(v, level - 1 - i)), what);
    }

    public int at(int k) {
        if (k < 0) {
            return BAD;
        }
        return k < order.size() ? order.nodeAt(k) : NONE;
    }

    // ---- acts

    public int grow(int p, int place, int tag) {
        if (!isPlace(p, place) || !isTag(tag)) {
            return BAD;
        }
        if (tree.isFull()) {
            return FULL;
        }
        int spot = tree.spotFor(p, place);
        if (spot == Keys.NO_SPOT) {
            return NO;
        }
        past.record(tree, NOTHING);
        int number = tree.add(p, spot, tag);
        settle();
        return number;
    }

    public int cut(int v) {
        if (!tree.isThere(v)) {
            return BAD;
        }
        if (v == 0) {
            return NO;
        }
        past.record(tree, NOTHING);
        int gone = order.bitsFrom(order.rankOf(v));
        tree.remove(gone);
        settle();
        return Integer.bitCount(gone);
    }

    public int tag(int v, int tag) {
        if (!tree.isThere(v) || !isTag(tag)) {
            return BAD;
        }
        int was = tree.tagOf(v);
        if (was == tag) {
            return NO;
        }
        past.record(tree, v);
        tree.setTag(v, tag);
        settle();
        return was;
    }

    public int undo() {
        if (past.size() == 0) {
            return NO;
        }
        past.restore(tree);
        settle();
        return past.size();
    }

    // ---- by labels

    public int between(int p, int place, int what) {
        if (!isPlace(p, place) || !isKeyPart(what)) {
            return BAD;
        }
        int spot = tree.spotFor(p, place);
        return spot == Keys.NO_SPOT ? NONE : keyPart(spot, what);
    }

    public int ahead(int v, int w) {
        if (!tree.isThere(v) || !tree.isThere(w)) {
            return BAD;
        }
        return order.rankOf(v) < order.rankOf(w) ? 1 : 0;
    }

    public int above(int v, int w) {
        if (!tree.isThere(v) || !tree.isThere(w)) {
            return BAD;
        }
        return v != w && order.spans(order.rankOf(v), order.rankOf(w)) ? 1 : 0;
    }

    public int meet(int v, int w) {
        if (!tree.isThere(v) || !tree.isThere(w)) {
            return BAD;
        }
        int rank = order.rankOf(w);
        int top = v;
        for (int i = 0; i < NODES && top > 0 && !order.spans(order.rankOf(top), rank); i++) {
            top = tree.parentOf(top);
        }
        return top;
    }

    // ---- patterns

    public int pattern() {
        int place = patternReader.read(text, stepsDraft);
        if (place >= 0) {
            return -10 - place;
        }
        steps.copyFrom(stepsDraft);
        matched = false;
        return steps.size();
    }

    public int step(int q, int what) {
        if (!steps.has(q)) {
            return BAD;
        }
        switch (what) {
            case 0:
                return steps.tagOf(q);
            case 1:
                return q == 0 ? NONE : steps.hangOf(q);
            case 2:
                return q == 0 ? NONE : steps.axisOf(q);
            default:
                return BAD;
        }
    }

    public long matches() {
        if (steps.size() == 0) {
            return NO;
        }
        matchAll();
        return matcher.total();
    }

    public long puts(int q, int v) {
        if (!steps.has(q) || !tree.isThere(v)) {
            return BAD;
        }
        matchAll();
        return matcher.ways(q, order.rankOf(v));
    }

    public int useful(int q) {
        if (!steps.has(q)) {
            return BAD;
        }
        matchAll();
        int bits = 0;
        for (int k = 0; k < order.size(); k++) {
            if (matcher.ways(q, k) > 0) {
                bits |= 1 << order.nodeAt(k);
            }
        }
        return bits;
    }

    public int end(int k) {
        if (k < -1) {
            return BAD;
        }
        if (steps.size() == 0) {
            return NO;
        }
        matchAll();
        int found = 0;
        for (int rank = 0; rank < order.size(); rank++) {
            if (matcher.ways(steps.lastOutermost(), rank) > 0) {
                if (found == k) {
                    return order.nodeAt(rank);
                }
                found++;
            }
        }
        return k == -1 ? found : NONE;
    }

    // ---- kept

    public int keep() {
        if (keptSize >= KEEPS) {
            return FULL;
        }
        keptTree(keptSize).copyFrom(tree);
        keptSize++;
        return keptSize;
    }

    public int back() {
        if (keptSize <= 0) {
            return NO;
        }
        keptSize--;
        tree.copyFrom(keptTree(keptSize));
        past.clear();
        settle();
        return keptSize;
    }

    public int count(int what) {
        switch (what) {
            case 0:
                return order.size();
            case 1:
                return tree.came();
            case 2:
                return steps.size();
            case 3:
                return mostFigures();
            case 4:
                return order.mostLevels();
            case 5:
                return tree.kind();
            case 6:
                return past.size();
            case 7:
                return keptSize;
            case 8:
                return text.size();
            default:
                return BAD;
        }
    }

    // ---- helpers

    /** Called behind every change of the tree: what is derived from it must follow. */
    private void settle() {
        order.read(tree);
        matched = false;
    }

    private void matchAll() {
        if (!matched) {
            matcher.run();
            matched = true;
        }
    }

    private Tree keptTree(int i) {
        return i == 0 ? keptFirst : keptSecond;
    }

    private boolean isPlace(int p, int place) {
        return tree.isThere(p) && place >= 0 && place <= tree.kidsOf(p);
    }

    private static boolean isTag(int number) {
        return number >= 0 && number < TAGS;
    }

    private static boolean isKeyPart(int what) {
        return what == 0 || what == 1;
    }

    private static int keyPart(int spot, int what) {
        return what == 0 ? Keys.figures(spot) : Keys.length(spot);
    }

    private int climb(int v, int levels) {
        int top = v;
        for (int i = 0; i < levels && i < NODES; i++) {
            top = tree.parentOf(top);
        }
        return top;
    }

    private int mostFigures() {
        int most = 0;
        for (int k = 1; k < order.size(); k++) {
            most = Math.max(most, Keys.length(tree.spotOf(order.nodeAt(k))));
        }
        return most;
    }

    /** THE TEXT. */
    private static final class Letters {
        private final int[] letters = new int[LETTERS];
        private int size;

        int size() {
            return size;
        }

        boolean isFull() {
            return size >= LETTERS;
        }

        void add(int letter) {
            if (size < LETTERS) {
                letters[size] = letter;
                size++;
            }
        }

        void clear() {
            size = 0;
        }

        int letterAt(int place) {
            return place >= 0 && place < size ? letters[place] : NOTHING;
        }
    }

    /**
     * KEYS as spots: a KEY written with nine figures, zeros behind its own, so that
     * KEYS compare as ints do. 0 and WHOLE stand for what is missing at the ends.
     */
    private static final class Keys {
        static final int FIGURES = 9;
        static final int WHOLE = 1000000000;
        /** No KEY is 0, so 0 is free to tell that there is none. */
        static final int NO_SPOT = 0;

        private Keys() {
        }

        static int choose(int kind, int low, int high) {
            for (int unit = WHOLE / 10; unit > 0; unit /= 10) {
                int least = low / unit + 1;
                int greatest = (high - 1) / unit;
                // None of these ends with 0: such a one was there with fewer figures.
                if (least <= greatest) {
                    return pick(kind, least, greatest) * unit;
                }
            }
            return NO_SPOT;
        }

        private static int pick(int kind, int least, int greatest) {
            switch (kind) {
                case 1:
                    return least;
                case 2:
                    return greatest;
                case 3:
                    return Math.min(least + 1, greatest);
                default:
                    return least + (greatest - least) / 2;
            }
        }

        static int length(int spot) {
            int length = FIGURES;
            int rest = spot;
            while (length > 1 && rest % 10 == 0) {
                rest /= 10;
                length--;
            }
            return length;
        }

        static int figures(int spot) {
            int rest = spot;
            for (int i = length(spot); i < FIGURES; i++) {
                rest /= 10;
            }
            return rest;
        }
    }

    /** The NODES by their numbers; which there are is told by bits. */
    private static final class Tree {
        private final int[] tags = new int[NODES];
        private final int[] parents = new int[NODES];
        private final int[] spots = new int[NODES];
        private int thereBits;
        private int came;
        private int kind;

        void clear() {
            thereBits = 0;
            came = 0;
            kind = 0;
        }

        void copyFrom(Tree other) {
            System.arraycopy(other.tags, 0, tags, 0, NODES);
            System.arraycopy(other.parents, 0, parents, 0, NODES);
            System.arraycopy(other.spots, 0, spots, 0, NODES);
            thereBits = other.thereBits;
            came = other.came;
            kind = other.kind;
        }

        private static boolean isNumber(int v) {
            return v >= 0 && v < NODES;
        }

        boolean isThere(int v) {
            return isNumber(v) && (thereBits >> v & 1) == 1;
        }

        boolean isFull() {
            return came >= NODES;
        }

        int came() {
            return came;
        }

        int kind() {
            return kind;
        }

        void setKind(int number) {
            kind = number;
        }

        int bits() {
            return thereBits;
        }

        int tagOf(int v) {
            return isNumber(v) ? tags[v] : NOTHING;
        }

        void setTag(int v, int number) {
            if (isNumber(v)) {
                tags[v] = number;
            }
        }

        int parentOf(int v) {
            return isNumber(v) ? parents[v] : NOTHING;
        }

        int spotOf(int v) {
            return isNumber(v) ? spots[v] : Keys.NO_SPOT;
        }

        int add(int parent, int spot, int number) {
            if (isFull()) {
                return NOTHING;
            }
            int v = came;
            tags[v] = number;
            parents[v] = parent;
            spots[v] = spot;
            thereBits |= 1 << v;
            came++;
            return v;
        }

        void remove(int bits) {
            thereBits &= ~bits;
        }

        /** Numbers of NODES put in are free again, once that is undone. */
        void rewind(int bits, int number) {
            thereBits = bits;
            came = number;
        }

        int kidsOf(int p) {
            int kids = 0;
            for (int v = 1; v < NODES; v++) {
                if (isThere(v) && parents[v] == p) {
                    kids++;
                }
            }
            return kids;
        }

        /** The first child of p whose KEY is behind a spot. */
        int nextKid(int p, int spot) {
            int next = NOTHING;
            int nearest = Keys.WHOLE;
            for (int v = 1; v < NODES; v++) {
                if ((thereBits >> v & 1) == 1 && parents[v] == p
                        && spots[v] > spot && spots[v] < nearest) {
                    next = v;
                    nearest = spots[v];
                }
            }
            return next;
        }

        int childAt(int p, int place) {
            int kid = nextKid(p, 0);
            for (int i = 0; i < place && isNumber(kid); i++) {
                kid = nextKid(p, spots[kid]);
            }
            return kid;
        }

        int spotFor(int p, int place) {
            int low = place > 0 ? spotOf(childAt(p, place - 1)) : 0;
            int next = nextKid(p, low);
            return Keys.choose(kind, low, next < 0 ? Keys.WHOLE : spotOf(next));
        }
    }

    /** Reads a TEXT of ITEMS into a tree, up to its first FAULT. */
    private static final class TreeReader {
        private final int[] numbers = new int[3];
        private int place;
        private boolean kindTold;

        /** The FAULT, or NOTHING. */
        int read(Letters text, Tree into) {
            into.clear();
            place = 0;
            kindTold = false;
            // Each ITEM takes a letter at least, so there are no more of them than letters.
            for (int items = 0; items < LETTERS && place < text.size(); items++) {
                int start = place;
                int letter = text.letterAt(place);
                place++;
                if (!readNumbers(text, numbersBehind(letter)) || !apply(letter, into)) {
                    return start;
                }
            }
            return NOTHING;
        }

        private static int numbersBehind(int letter) {
            if (letter == 'k' || letter == 'r') {
                return 1;
            }
            return letter == 'g' ? 3 : 0;
        }

        private boolean readNumbers(Letters text, int due) {
            for (int i = 0; i < due && i < numbers.length; i++) {
                numbers[i] = readNumber(text);
                int closing = i == due - 1 ? ';' : ',';
                if (numbers[i] < 0 || text.letterAt(place) != closing) {
                    return false;
                }
                place++;
            }
            return due > 0;
        }

        private int readNumber(Letters text) {
            int first = figureAt(text, place);
            if (first < 0) {
                return NOTHING;
            }
            place++;
            int second = figureAt(text, place);
            if (second < 0) {
                return first;
            }
            place++;
            return first * 10 + second;
        }

        private static int figureAt(Letters text, int place) {
            int letter = text.letterAt(place);
            return letter >= '0' && letter <= '9' ? letter - '0' : NOTHING;
        }

        private boolean apply(int letter, Tree into) {
            if (letter == 'k') {
                return applyKind(into);
            }
            return letter == 'r' ? applyRoot(into) : applyNode(into);
        }

        private boolean applyKind(Tree into) {
            if (kindTold || into.came() > 0 || numbers[0] >= KINDS) {
                return false;
            }
            kindTold = true;
            into.setKind(numbers[0]);
            return true;
        }

        private boolean applyRoot(Tree into) {
            if (into.came() > 0 || !isTag(numbers[0])) {
                return false;
            }
            into.add(NOTHING, Keys.NO_SPOT, numbers[0]);
            return true;
        }

        private boolean applyNode(Tree into) {
            int parent = numbers[0];
            if (into.isFull() || !into.isThere(parent)
                    || numbers[1] > into.kidsOf(parent) || !isTag(numbers[2])) {
                return false;
            }
            int spot = into.spotFor(parent, numbers[1]);
            if (spot == Keys.NO_SPOT) {
                return false;
            }
            into.add(parent, spot, numbers[2]);
            return true;
        }
    }

    /** The ORDER of a tree; all but the rank of a NODE is found by ranks. */
    private static final class Order {
        private final int[] ranks = new int[NODES];
        private final int[] nodes = new int[NODES];
        private final int[] parents = new int[NODES];
        private final int[] elders = new int[NODES];
        private final int[] levels = new int[NODES];
        private final int[] kids = new int[NODES];
        private final int[] belows = new int[NODES];
        private int size;

        void read(Tree tree) {
            size = 0;
            if (tree.isThere(0)) {
                take(0, NOTHING, NOTHING);
            }
            for (int k = 0; k < size && k < NODES; k++) {
                takeFollower(tree, k);
            }
            for (int k = size - 1; k > 0; k--) {
                int p = parents[k];
                if (isRank(p)) {
                    kids[p]++;
                    belows[p] += belows[k] + 1;
                }
            }
        }

        private void takeFollower(Tree tree, int rank) {
            int kid = tree.nextKid(nodeAt(rank), 0);
            if (kid >= 0) {
                take(kid, rank, NOTHING);
                return;
            }
            int elder = rank;
            for (int i = 0; i < NODES && elder > 0; i++) {
                int p = parentAt(elder);
                int next = tree.nextKid(nodeAt(p), tree.spotOf(nodeAt(elder)));
                if (next >= 0) {
                    take(next, p, elder);
                    return;
                }
                elder = p;
            }
        }

        private void take(int v, int parent, int elder) {
            if (size >= NODES || v < 0 || v >= NODES) {
                return;
            }
            ranks[v] = size;
            nodes[size] = v;
            parents[size] = parent;
            elders[size] = elder;
            levels[size] = parent < 0 ? 0 : levelAt(parent) + 1;
            kids[size] = 0;
            belows[size] = 0;
            size++;
        }

        private boolean isRank(int k) {
            return k >= 0 && k < size;
        }

        int size() {
            return size;
        }

        int rankOf(int v) {
            return v >= 0 && v < NODES ? ranks[v] : NOTHING;
        }

        int nodeAt(int k) {
            return isRank(k) ? nodes[k] : NOTHING;
        }

        int parentAt(int k) {
            return isRank(k) ? parents[k] : NOTHING;
        }

        /** The rank of the child of the same just ahead. */
        int elderAt(int k) {
            return isRank(k) ? elders[k] : NOTHING;
        }

        int levelAt(int k) {
            return isRank(k) ? levels[k] : 0;
        }

        int kidsAt(int k) {
            return isRank(k) ? kids[k] : 0;
        }

        int belowAt(int k) {
            return isRank(k) ? belows[k] : 0;
        }

        /** Whether the second is the first or below it: all below one stand just behind it. */
        boolean spans(int k, int other) {
            return other >= k && other <= k + belowAt(k);
        }

        int bitsFrom(int rank) {
            int bits = 0;
            for (int k = rank; k <= rank + belowAt(rank) && isRank(k); k++) {
                bits |= 1 << nodes[k];
            }
            return bits;
        }

        int mostLevels() {
            int most = 0;
            for (int k = 0; k < size && k < NODES; k++) {
                most = Math.max(most, levels[k]);
            }
            return most;
        }
    }

    /**
     * What stood ahead of the last acts. No act changes a parent or a KEY of a NODE
     * that is there, so bits, how many came, and one TAG are enough to go back.
     */
    private static final class Past {
        private final int[] bits = new int[UNDOS];
        private final int[] cames = new int[UNDOS];
        private final int[] tagged = new int[UNDOS];
        private final int[] tags = new int[UNDOS];
        private int size;

        int size() {
            return size;
        }

        void clear() {
            size = 0;
        }

        void record(Tree tree, int toBeTagged) {
            if (size >= UNDOS) {
                forgetFirst();
            }
            bits[size] = tree.bits();
            cames[size] = tree.came();
            tagged[size] = toBeTagged;
            tags[size] = tree.tagOf(toBeTagged);
            size++;
        }

        private void forgetFirst() {
            size = UNDOS - 1;
            System.arraycopy(bits, 1, bits, 0, size);
            System.arraycopy(cames, 1, cames, 0, size);
            System.arraycopy(tagged, 1, tagged, 0, size);
            System.arraycopy(tags, 1, tags, 0, size);
        }

        void restore(Tree tree) {
            if (size > 0) {
                size--;
                tree.rewind(bits[size], cames[size]);
                tree.setTag(tagged[size], tags[size]);
            }
        }
    }

    /** STEPS; each hangs on one of a lower number. */
    private static final class Pattern {
        static final int ANY = 6;
        private final int[] tags = new int[STEPS];
        private final int[] hangs = new int[STEPS];
        private final int[] axes = new int[STEPS];
        private int size;
        private int lastOutermost;

        void clear() {
            size = 0;
            lastOutermost = 0;
        }

        void copyFrom(Pattern other) {
            System.arraycopy(other.tags, 0, tags, 0, STEPS);
            System.arraycopy(other.hangs, 0, hangs, 0, STEPS);
            System.arraycopy(other.axes, 0, axes, 0, STEPS);
            size = other.size;
            lastOutermost = other.lastOutermost;
        }

        int size() {
            return size;
        }

        boolean has(int q) {
            return q >= 0 && q < size;
        }

        /** The number of the new STEP, or NOTHING where there are too many. */
        int add(int number, int hang, int axis) {
            if (size >= STEPS) {
                return NOTHING;
            }
            tags[size] = number;
            hangs[size] = hang;
            axes[size] = axis;
            size++;
            return size - 1;
        }

        void setLastOutermost(int q) {
            lastOutermost = q;
        }

        int lastOutermost() {
            return lastOutermost;
        }

        int tagOf(int q) {
            return has(q) ? tags[q] : NOTHING;
        }

        int hangOf(int q) {
            return has(q) ? hangs[q] : NOTHING;
        }

        int axisOf(int q) {
            return has(q) ? axes[q] : NOTHING;
        }

        boolean fits(int q, int number) {
            return has(q) && (tags[q] == ANY || tags[q] == number);
        }
    }

    /** Reads a TEXT letter by letter into a PATTERN, up to its first FAULT. */
    private static final class PatternReader {
        private static final int TAG_DUE = 0, AXIS_DUE = 1, STEP_STANDS = 2;
        /** For each BRANCH that is open, the STEP that it hangs on. */
        private final int[] opened = new int[STEPS];
        private int depth;
        private int due;
        private int latest;
        private int axis;

        /** The FAULT, or NOTHING. */
        int read(Letters text, Pattern into) {
            into.clear();
            depth = 0;
            due = TAG_DUE;
            latest = NOTHING;
            axis = NOTHING;
            for (int i = 0; i < text.size(); i++) {
                if (!takes(text.letterAt(i), into)) {
                    return i;
                }
            }
            return due == STEP_STANDS && depth == 0 ? NOTHING : text.size();
        }

        private boolean takes(int letter, Pattern into) {
            if (due == TAG_DUE) {
                return takesTag(letter, into);
            }
            if (due == STEP_STANDS && letter == '[') {
                return opens();
            }
            if (due == STEP_STANDS && letter == ']') {
                return closes();
            }
            return takesAxis(letter);
        }

        private boolean takesTag(int letter, Pattern into) {
            int number = letter == '*' ? Pattern.ANY : letter - 'a';
            if (letter != '*' && !isTag(number)) {
                return false;
            }
            int q = into.add(number, latest, axis);
            if (q < 0) {
                return false;
            }
            if (depth == 0) {
                into.setLastOutermost(q);
            }
            latest = q;
            due = STEP_STANDS;
            return true;
        }

        private boolean takesAxis(int letter) {
            int number = axisFor(letter);
            if (number < 0) {
                return false;
            }
            axis = number;
            due = TAG_DUE;
            return true;
        }

        private static int axisFor(int letter) {
            switch (letter) {
                case '/':
                    return Matcher.CHILD;
                case ':':
                    return Matcher.BELOW;
                case '+':
                    return Matcher.NEXT;
                case '~':
                    return Matcher.LATER;
                default:
                    return NOTHING;
            }
        }

        private boolean opens() {
            if (depth >= STEPS) {
                return false;
            }
            opened[depth] = latest;
            depth++;
            due = AXIS_DUE;
            return true;
        }

        private boolean closes() {
            if (depth <= 0) {
                return false;
            }
            depth--;
            latest = opened[depth];
            return true;
        }
    }

    /**
     * Counts MATCHES, with NODES told by rank. A STEP's own part is what hangs on it,
     * directly or not, and the STEP itself; the other part is all the rest.
     */
    private static final class Matcher {
        static final int CHILD = 0, BELOW = 1, NEXT = 2, LATER = 3;
        /** In how many ways the STEP's part is matched, with that NODE for the STEP. */
        private final long[][] own = new long[STEPS][NODES];
        /** The same, with that NODE for the STEP on which it hangs. */
        private final long[][] hung = new long[STEPS][NODES];
        /** In how many ways the other part is matched, with that NODE for the STEP. */
        private final long[][] other = new long[STEPS][NODES];
        private final long[] rest = new long[NODES];
        private final Tree tree;
        private final Order order;
        private final Pattern pattern;

        Matcher(Tree tree, Order order, Pattern pattern) {
            this.tree = tree;
            this.order = order;
            this.pattern = pattern;
        }

        void run() {
            for (int q = pattern.size() - 1; q >= 0; q--) {
                countOwn(q);
                countHung(q);
            }
            Arrays.fill(other[0], 1L);
            for (int q = 1; q < pattern.size(); q++) {
                countRest(pattern.hangOf(q), q);
                countOther(q);
            }
        }

        long total() {
            long sum = 0;
            for (int k = 0; k < order.size(); k++) {
                sum += own[0][k];
            }
            return sum;
        }

        long ways(int q, int k) {
            if (q < 0 || q >= STEPS || k < 0 || k >= NODES) {
                return 0;
            }
            return own[q][k] * other[q][k];
        }

        private void countOwn(int q) {
            for (int k = 0; k < order.size(); k++) {
                own[q][k] = product(q, NOTHING, k);
            }
        }

        /** Of what hangs on a STEP, but for one, with that NODE for it; 0 if its TAG is another. */
        private long product(int q, int without, int k) {
            if (!pattern.fits(q, tree.tagOf(order.nodeAt(k)))) {
                return 0;
            }
            long product = 1;
            for (int c = q + 1; c < pattern.size(); c++) {
                if (c != without && pattern.hangOf(c) == q) {
                    product *= hung[c][k];
                }
            }
            return product;
        }

        /** From the last to the first: what an axis reaches stands behind, so it is summed already. */
        private void countHung(int q) {
            Arrays.fill(hung[q], 0L);
            for (int k = order.size() - 1; k > 0; k--) {
                int from = sourceOf(q, k);
                if (from >= 0) {
                    hung[q][from] += own[q][k] + (reachesOn(q) ? hung[q][k] : 0);
                }
            }
        }

        private void countRest(int q, int without) {
            for (int k = 0; k < order.size(); k++) {
                rest[k] = q < 0 ? 0 : other[q][k] * product(q, without, k);
            }
        }

        private void countOther(int q) {
            Arrays.fill(other[q], 0L);
            for (int k = 1; k < order.size(); k++) {
                int from = sourceOf(q, k);
                if (from >= 0) {
                    other[q][k] = rest[from] + (reachesOn(q) ? other[q][from] : 0);
                }
            }
        }

        /** The one from which a single move along the axis of a STEP leads to that NODE. */
        private int sourceOf(int q, int k) {
            int axis = pattern.axisOf(q);
            return axis == CHILD || axis == BELOW ? order.parentAt(k) : order.elderAt(k);
        }

        private boolean reachesOn(int q) {
            int axis = pattern.axisOf(q);
            return axis == BELOW || axis == LATER;
        }
    }
}
