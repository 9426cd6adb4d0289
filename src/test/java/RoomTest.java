import java.lang.management.ManagementFactory;
import java.lang.reflect.Array;
import java.lang.reflect.Field;
import java.lang.reflect.Modifier;
import java.util.ArrayDeque;
import java.util.Collections;
import java.util.Deque;
import java.util.IdentityHashMap;
import java.util.Set;

/**
 * What an object holds, and that no call makes another one: all calls of a run live in one room of
 * some 600,000 objects and 7.3 million fields and elements (rule 12 of LANGUAGE.md).
 */
public final class RoomTest {
    private static final Check check = new Check();
    private static final int MOST_OBJECTS = 100, MOST_ELEMENTS = 2000;
    /** Calls of one object, and how often all of them are called. */
    private static final int CALLS = 512, TIMES = 400;
    /** Far less than one object for each use of an object would take. */
    private static final int MOST_BYTES = 4000;

    private int objects = 0;
    private int elements = 0;

    public static void main(String[] args) throws IllegalAccessException {
        check.promise(0, "the room");
        LabelTree fresh = new LabelTree();
        holds("a new object", fresh);
        use(fresh);
        holds("an object behind its 512th call", fresh);
        callsMakeNothing();
        check.end();
    }

    private static void holds(String name, LabelTree x) throws IllegalAccessException {
        RoomTest room = new RoomTest();
        room.countAll(x);
        check.due(name + ", objects too many", Math.max(0, room.objects - MOST_OBJECTS), 0);
        check.due(name + ", fields and elements too many", Math.max(0, room.elements - MOST_ELEMENTS), 0);
    }

    private void countAll(Object root) throws IllegalAccessException {
        Set<Object> seen = Collections.newSetFromMap(new IdentityHashMap<>());
        Deque<Object> left = new ArrayDeque<>();
        seen.add(root);
        left.add(root);
        while (!left.isEmpty()) {
            Object one = left.remove();
            objects++;
            if (one.getClass().isArray()) {
                countArray(one, seen, left);
            } else {
                countFields(one, seen, left);
            }
        }
    }

    private void countArray(Object array, Set<Object> seen, Deque<Object> left) {
        int length = Array.getLength(array);
        elements += length;
        for (int i = 0; i < length && !array.getClass().getComponentType().isPrimitive(); i++) {
            add(Array.get(array, i), seen, left);
        }
    }

    private void countFields(Object one, Set<Object> seen, Deque<Object> left) throws IllegalAccessException {
        for (Field f : one.getClass().getDeclaredFields()) {
            if (!Modifier.isStatic(f.getModifiers())) {
                elements++;
                if (!f.getType().isPrimitive()) {
                    f.setAccessible(true);
                    add(f.get(one), seen, left);
                }
            }
        }
    }

    private static void add(Object one, Set<Object> seen, Deque<Object> left) {
        if (one != null && seen.add(one)) {
            left.add(one);
        }
    }

    private static final char[] TREE = "k3;r0;g0,0,1;g0,0,2;g1,0,1;g3,0,2;g0,1,1;".toCharArray();
    private static final char[] PATTERN = "*[:b]/b~*".toCharArray();

    /** Every call, right and refused, up to the 512th. */
    private static long use(LabelTree x) {
        int called = text(x, TREE) + 2;
        long sum = x.fault() + x.lay();
        called += text(x, PATTERN) + 1;
        sum += x.pattern();
        for (int i = 0; called < CALLS; i++) {
            sum += call(x, i % 22, i / 22);
            called++;
        }
        return sum;
    }

    /** Writes a text anew: how many calls that takes. */
    private static int text(LabelTree x, char[] letters) {
        x.wipe();
        for (char letter : letters) {
            x.write(letter);
        }
        return letters.length + 1;
    }

    private static long call(LabelTree x, int which, int i) {
        switch (which) {
            case 0: return x.grow(0, i % 3, i % 7);
            case 1: return x.node(i, i % 6);
            case 2: return x.child(0, i);
            case 3: return x.key(i, 0, i % 2);
            case 4: return x.at(i);
            case 5: return x.tag(i, i % 6);
            case 6: return x.between(0, i % 4, i % 2);
            case 7: return x.ahead(i, 1);
            case 8: return x.above(0, i);
            case 9: return x.meet(i, 3);
            case 10: return x.matches();
            case 11: return x.puts(i % 4, i);
            case 12: return x.useful(i % 4);
            case 13: return x.end(i - 1);
            case 14: return i % 5 == 0 ? x.keep() : x.count(7);
            case 15: return x.step(i % 4, i % 3);
            case 16: return i % 4 == 0 ? x.cut(i) : x.count(0);
            case 17: return i % 3 == 0 ? x.undo() : x.count(6);
            case 18: return i % 9 == 8 ? x.back() : x.count(1);
            case 19: return x.count(i);
            case 20: return x.fault();
            default: return x.pattern();
        }
    }

    private static void callsMakeNothing() {
        com.sun.management.ThreadMXBean bean = (com.sun.management.ThreadMXBean) ManagementFactory.getThreadMXBean();
        LabelTree[] all = new LabelTree[TIMES];
        for (int i = 0; i < TIMES; i++) {
            all[i] = new LabelTree();
        }
        use(new LabelTree());
        bean.getCurrentThreadAllocatedBytes();
        long sum = 0;
        long ahead = bean.getCurrentThreadAllocatedBytes();
        for (int i = 0; i < TIMES; i++) {
            sum += use(all[i]);
        }
        long made = bean.getCurrentThreadAllocatedBytes() - ahead;
        check.due("bytes that " + TIMES * CALLS + " calls make, beyond " + MOST_BYTES, Math.max(0, made - MOST_BYTES), 0);
        check.due("the same calls give the same answers", sum, TIMES * use(new LabelTree()));
    }
}
