import java.lang.management.ManagementFactory;
import java.lang.reflect.Array;
import java.lang.reflect.Field;
import java.lang.reflect.Modifier;
import java.util.ArrayDeque;
import java.util.Collections;
import java.util.Deque;
import java.util.IdentityHashMap;
import java.util.Set;

/** One room for all calls of a run: what a new object holds, and that no call makes more. */
public final class RoomTest {
    private static final int MOST_OBJECTS = 600_000;
    private static final int MOST_ELEMENTS = 7_300_000;
    /** A new object is small enough for a run that makes many. */
    private static final int SHARE = 20;
    private static final int CALLS = 512;

    private static int wrong;

    public static void main(String[] args) {
        holds();
        makesNothing();
        System.out.println(wrong == 0 ? "room: no call makes an object" : wrong + " things have no room");
        if (wrong != 0) System.exit(1);
    }

    private static void bad(String what) {
        wrong++;
        System.out.println(what);
    }

    private static void holds() {
        long[] counted = counted(new FrameBench());
        if (counted[0] > MOST_OBJECTS / SHARE) bad(counted[0] + " objects and arrays");
        if (counted[1] > MOST_ELEMENTS / SHARE) bad(counted[1] + " fields and elements");
    }

    private static long[] counted(Object root) {
        Set<Object> seen = Collections.newSetFromMap(new IdentityHashMap<>());
        Deque<Object> open = new ArrayDeque<>();
        open.add(root);
        long elements = 0;
        while (!open.isEmpty()) {
            Object one = open.remove();
            if (!seen.add(one)) continue;
            if (one.getClass().isArray()) {
                elements += Array.getLength(one);
                if (one instanceof Object[] row) for (Object o : row) if (o != null) open.add(o);
                continue;
            }
            for (Field field : one.getClass().getDeclaredFields()) {
                if (Modifier.isStatic(field.getModifiers())) continue;
                elements++;
                if (!field.getType().isPrimitive()) open.add(valueOf(field, one));
            }
        }
        return new long[] {seen.size(), elements};
    }

    private static Object valueOf(Field field, Object of) {
        try {
            field.setAccessible(true);
            return field.get(of);
        } catch (IllegalAccessException e) {
            throw new IllegalStateException(e);
        }
    }

    /** 512 calls, the dearest among them, once to make the machine load what it loads, and once more. */
    private static void makesNothing() {
        String signature = Sentences.INDEXED + Load.SIGNATURE;
        String[] texts = {"c256 ( c256 id ) z", "c16 ( c4 s ) z ; c16 ( c4 s ) z", "m ( c16 ( c16 s ) z )", "p z ( s what )", "c256 ( c4 id ) z"};
        long[][][] fed = new long[texts.length + 1][][];
        for (int i = 0; i <= texts.length; i++) fed[i] = longs(i == 0 ? signature : texts[i - 1]);
        run(new FrameBench(), fed);
        FrameBench bench = new FrameBench();
        long before = allocated();
        run(bench, fed);
        long made = allocated() - before - idle();
        if (made > 0) bad(CALLS + " calls made " + made + " bytes");
    }

    private static long[][] longs(String text) {
        long[][] all = new long[(text.length() + 23) / 24][];
        for (int i = 0; i < all.length; i++) {
            all[i] = new long[] {Bench.eight(text, 24 * i), Bench.eight(text, 24 * i + 8), Bench.eight(text, 24 * i + 16)};
        }
        return all;
    }

    private static void run(FrameBench bench, long[][][] fed) {
        int calls = feed(bench, fed[0]) + 1;
        bench.declare();
        for (int turn = 0; calls < CALLS - 30; turn++) {
            calls += feed(bench, fed[1 + turn % (fed.length - 1)]) + 1;
            switch (turn % 4) {
                case 0: bench.canon(); break;
                case 1: bench.equal(); break;
                case 2: bench.type(); break;
                default: bench.declare();
            }
        }
        for (int i = 0; i < 5; i++) {
            bench.named();
            bench.constant(i, 0);
            bench.size();
            bench.out(i);
            bench.forget(1);
            bench.count(i);
        }
    }

    private static int feed(FrameBench bench, long[][] text) {
        for (long[] three : text) bench.feed(three[0], three[1], three[2]);
        return text.length;
    }

    private static long allocated() {
        com.sun.management.ThreadMXBean threads = (com.sun.management.ThreadMXBean) ManagementFactory.getThreadMXBean();
        return threads.getCurrentThreadAllocatedBytes();
    }

    /** What asking alone makes. */
    private static long idle() {
        long before = allocated();
        return allocated() - before;
    }
}
