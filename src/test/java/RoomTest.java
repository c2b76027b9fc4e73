import com.sun.management.ThreadMXBean;
import java.lang.management.ManagementFactory;
import java.lang.reflect.Array;
import java.lang.reflect.Field;
import java.lang.reflect.Modifier;
import java.util.Collections;
import java.util.IdentityHashMap;
import java.util.Set;

/** All calls of a run live in one room: a new object is small, and no other call makes anything. */
public final class RoomTest {
    private static final ThreadMXBean THREADS = (ThreadMXBean) ManagementFactory.getThreadMXBean();
    private static final int CALLS = 512;
    private static final int ROOM_OF_OBJECTS = 600000;
    private static final int ROOM_OF_ELEMENTS = 7300000;

    private final Set<Object> seen = Collections.newSetFromMap(new IdentityHashMap<>());
    private int elements;

    private static long used() {
        return THREADS.getThreadAllocatedBytes(Thread.currentThread().getId());
    }

    public static void main(String[] args) throws IllegalAccessException {
        // a first time, so that what loading classes takes is not counted
        calls(new CupPot());
        CupPot x = new CupPot();
        dearestCallFits(x);
        long byCalls = calls(x);
        Check.due("calls make " + byCalls + " bytes, none but the measuring's own", true, byCalls < 2000);
        Check.finish("RoomTest");
    }

    /** The constructor is the dearest call: a run of nothing else must fit, too. */
    private static void dearestCallFits(CupPot x) throws IllegalAccessException {
        RoomTest room = new RoomTest();
        room.countAll(x);
        int objects = room.seen.size();
        Check.due(objects + " objects and arrays, " + CALLS + " times, fit", true, objects * CALLS <= ROOM_OF_OBJECTS);
        Check.due(room.elements + " fields and elements, " + CALLS + " times, fit", true,
            room.elements * CALLS <= ROOM_OF_ELEMENTS);
    }

    private void countAll(Object x) throws IllegalAccessException {
        if (x == null || !seen.add(x)) {
            return;
        }
        if (x.getClass().isArray()) {
            countArray(x);
            return;
        }
        for (Field f : x.getClass().getDeclaredFields()) {
            if (!Modifier.isStatic(f.getModifiers())) {
                elements++;
                f.setAccessible(true);
                if (!f.getType().isPrimitive()) {
                    countAll(f.get(x));
                }
            }
        }
    }

    private void countArray(Object row) throws IllegalAccessException {
        int size = Array.getLength(row);
        elements += size;
        boolean ofNumbers = row.getClass().getComponentType().isPrimitive();
        for (int i = 0; i < size && !ofNumbers; i++) {
            countAll(Array.get(row, i));
        }
    }

    private static long calls(CupPot x) {
        Check.tell(x, "club 10 5 900;".repeat(12) + "cup 40 30 30 floor 90 replays 3;cup 10 20 70;cup 1 2 97;cup 33 33 34");
        long before = used();
        x.book();
        for (int i = 0; i < 24; i++) {
            x.tie(i / 6, 0, i % 6, 11 - i % 6);
            x.play(i, 1000 + 37 * i, i % 3);
        }
        for (int i = 0; i < 24; i++) {
            x.fewest(0);
            x.pays(CupPot.NONE, 0);
            x.mark();
            x.least(i, 3000, 0);
            x.fairest(i);
            x.ifGate(i, 0, 77);
            x.club(i % 12, 9);
            x.ranked(i % 12);
            x.bands();
            x.chain(0, i % 12);
            x.tempt(i, 5000, 1);
            x.keep(0);
            x.again(0);
            x.undo();
            x.close(i % 4, 0);
        }
        return used() - before;
    }
}
