import java.lang.management.ManagementFactory;
import java.lang.reflect.Array;
import java.lang.reflect.Field;
import java.lang.reflect.Modifier;
import java.util.ArrayDeque;
import java.util.Collections;
import java.util.Deque;
import java.util.IdentityHashMap;
import java.util.Set;

/**
 * The room of a mill: all calls of a run share some 600000 objects and arrays with 7.3 million fields and elements, so
 * the constructor makes few, and no call makes one.
 */
public final class RoomTest {
    private static final int MOST_OBJECTS = 1000;
    private static final int MOST_FIELDS = 10000;

    private RoomTest() {
    }

    public static void main(String[] arguments) throws IllegalAccessException {
        constructor();
        calls();
        Check.end("RoomTest");
    }

    private static void constructor() throws IllegalAccessException {
        Set<Object> found = Collections.newSetFromMap(new IdentityHashMap<>());
        Deque<Object> open = new ArrayDeque<>();
        open.add(Mills.busy());
        found.add(open.getFirst());
        int fields = 0;
        while (!open.isEmpty()) {
            Object object = open.removeFirst();
            fields += object.getClass().isArray() ? elements(object, found, open) : fields(object, found, open);
        }
        Check.due(found.size() + " objects and arrays are few", 1, found.size() <= MOST_OBJECTS ? 1 : 0);
        Check.due(fields + " fields and elements are few", 1, fields <= MOST_FIELDS ? 1 : 0);
    }

    private static int elements(Object array, Set<Object> found, Deque<Object> open) {
        int length = Array.getLength(array);
        for (int i = 0; i < length && !array.getClass().getComponentType().isPrimitive(); i++) {
            add(Array.get(array, i), found, open);
        }
        return length;
    }

    private static int fields(Object object, Set<Object> found, Deque<Object> open) throws IllegalAccessException {
        int fields = 0;
        for (Field field : object.getClass().getDeclaredFields()) {
            if (!Modifier.isStatic(field.getModifiers())) {
                fields++;
                field.setAccessible(true);
                if (!field.getType().isPrimitive()) {
                    add(field.get(object), found, open);
                }
            }
        }
        return fields;
    }

    private static void add(Object object, Set<Object> found, Deque<Object> open) {
        if (object != null && found.add(object)) {
            open.add(object);
        }
    }

    /** The last time counts: the machine makes objects of its own for what is called first, and for the asking. */
    private static void calls() {
        long made = 0;
        for (int time = 0; time < 3; time++) {
            SeaMill mill = Mills.busy();
            long before = madeSoFar();
            long asking = madeSoFar() - before;
            before = madeSoFar();
            every(mill);
            made = madeSoFar() - before - asking;
        }
        Check.due("bytes that the calls make", 0, made);
    }

    private static long madeSoFar() {
        com.sun.management.ThreadMXBean threads =
            (com.sun.management.ThreadMXBean) ManagementFactory.getThreadMXBean();
        return threads.getThreadAllocatedBytes(Thread.currentThread().getId());
    }

    /** All calls of the face, on the busy mill. */
    private static void every(SeaMill mill) {
        mill.fault(0);
        mill.play();
        mill.set(7, 1);
        mill.leak(0, 1);
        mill.lock(1);
        mill.gate(1);
        mill.kind(1, 1, 1);
        mill.farmer();
        mill.bring(0, 0, 200);
        mill.kindOf(0, 4);
        mill.farmerOf(0, 4);
        mill.sackOf(5, 11);
        mill.queueAt(1);
        mill.account(-1, -1, 5);
        mill.earn(0, 1000);
        mill.pledge(2, 1);
        mill.owed(2);
        mill.pledgeAt(1, 0);
        mill.redeem(2);
        mill.fetch(2);
        mill.foresee(6);
        mill.bestGate(200);
        mill.withdraw(6);
        mill.pass(200);
        mill.seaIn(5000);
        mill.nextHigh();
        mill.pond(1);
        mill.count(4);
        mill.undo();
        mill.clearText();
        mill.type('g');
        mill.fault(1);
        mill.play();
        mill.bring(-1, 0, 0);
    }
}
