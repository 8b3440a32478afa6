import java.lang.reflect.Array;
import java.lang.reflect.Field;
import java.lang.reflect.Modifier;
import java.util.ArrayDeque;
import java.util.Collections;
import java.util.Deque;
import java.util.IdentityHashMap;
import java.util.Set;

/** How much one object holds, that it stays so whatever is called, and that the calls of a long run make next to nothing. */
public final class RoomTest {
    private static final int OBJECTS_MOST = 300;
    private static final int ELEMENTS_MOST = 5000;
    private static int wrong = 0;

    public static void main(String[] args) throws Exception {
        StillLoops x = new StillLoops();
        long[] before = held(x);
        check(before[0] <= OBJECTS_MOST, before[0] + " objects and arrays in a new object");
        check(before[1] <= ELEMENTS_MOST, before[1] + " fields and elements in a new object");
        for (int k = 0; k < 3; k++) {
            useAll(x);
        }
        long[] after = held(x);
        check(before[0] == after[0] && before[1] == after[1], "calls made " + (after[0] - before[0])
                + " objects more with " + (after[1] - before[1]) + " fields and elements");
        long bytes = made(x);
        check(bytes <= 20000, "dear calls made " + bytes + " bytes");
        System.out.println(before[0] + " objects with " + before[1] + " fields and elements, " + wrong + " faults");
        System.exit(wrong > 0 ? 1 : 0);
    }

    private static void check(boolean good, String what) {
        if (!good) {
            wrong++;
            System.out.println("room: " + what);
        }
    }

    /** Objects and arrays that hang on one, and the fields and elements of them all. */
    private static long[] held(Object root) throws Exception {
        Set<Object> seen = Collections.newSetFromMap(new IdentityHashMap<>());
        Deque<Object> open = new ArrayDeque<>();
        open.add(root);
        seen.add(root);
        long parts = 0;
        while (!open.isEmpty()) {
            Object one = open.remove();
            if (one.getClass().isArray()) {
                parts += Array.getLength(one);
                for (int k = 0; k < Array.getLength(one) && !one.getClass().getComponentType().isPrimitive(); k++) {
                    push(Array.get(one, k), seen, open);
                }
                continue;
            }
            for (Field f : one.getClass().getDeclaredFields()) {
                if (Modifier.isStatic(f.getModifiers())) {
                    continue;
                }
                parts++;
                f.setAccessible(true);
                if (!f.getType().isPrimitive()) {
                    push(f.get(one), seen, open);
                }
            }
        }
        return new long[] {seen.size(), parts};
    }

    private static void push(Object one, Set<Object> seen, Deque<Object> open) {
        if (one != null && seen.add(one)) {
            open.add(one);
        }
    }

    private static void useAll(StillLoops x) {
        Checks.tape(x, "loop lag gain 256 tau 0 low -10 high 10;gains 0 kp 256 ki 0 kd 0;law 0 filter 0 back 0");
        try {
            x.bench();
        } catch (RuntimeException e) {
            check(false, "a right text was refused");
        }
        x.mode(0, 1);
        x.load(0, 3);
        x.image();
        x.ticks(60);
        x.round(true);
        x.round(false);
        x.sweep(0);
        for (int what = 0; what <= 4; what++) {
            x.starts(0, what);
        }
        x.bump(0, 0);
        x.step(0, 5, 0);
        x.twin(60);
        x.ahead(0, 60, true);
        x.peak(0, 60);
        x.hunts(0, 60);
        x.worst(60);
        x.which(8);
        x.back();
    }

    /** What a run of the dearest calls makes, as the machine counts it. */
    private static long made(StillLoops x) {
        com.sun.management.ThreadMXBean counter =
                (com.sun.management.ThreadMXBean) java.lang.management.ManagementFactory.getThreadMXBean();
        long before = counter.getThreadAllocatedBytes(Thread.currentThread().getId());
        for (int k = 0; k < 100; k++) {
            x.round(true);
            x.sweep(0);
            x.starts(0, 3);
            x.twin(60);
            x.step(0, 5, 2);
            x.ticks(1);
            x.image();
            x.back();
        }
        return counter.getThreadAllocatedBytes(Thread.currentThread().getId()) - before;
    }
}
