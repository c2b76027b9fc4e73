import com.sun.management.ThreadMXBean;
import java.lang.management.ManagementFactory;

/** All calls of a run live in one room: a new object is small, and no call makes anything. */
public final class RoomTest {
    private static final ThreadMXBean THREADS = (ThreadMXBean) ManagementFactory.getThreadMXBean();

    private static long used() {
        return THREADS.getThreadAllocatedBytes(Thread.currentThread().getId());
    }

    public static void main(String[] args) {
        // a first time, so that what loading classes takes is not counted
        calls(new CupPot());
        long before = used();
        CupPot x = new CupPot();
        long made = used() - before;
        // 4 bytes an element, 16 and more an array
        Check.due("a new object takes " + made + " bytes, 100,000 at most", true, made < 100000);
        long byCalls = calls(x);
        Check.due("calls make " + byCalls + " bytes, none but the measuring's own", true, byCalls < 2000);
        Check.finish("RoomTest");
    }

    private static long calls(CupPot x) {
        Check.tell(x, "club 10 5 900;".repeat(12) + "cup 40 30 30 floor 90 replays 3;cup 10 20 70;cup 1 2 97;cup 33 33 34");
        long before = used();
        x.book();
        for (int i = 0; i < 24; i++) {
            x.tie(i / 6, 0, i % 6, 11 - i % 6);
            x.play(i, 1000 + 37 * i, i % 3);
        }
        for (int i = 0; i < 24; i++) {
            x.fewest(0);
            x.pays(CupPot.NONE, 0);
            x.mark();
            x.least(i, 3000, 0);
            x.fairest(i);
            x.ifGate(i, 0, 77);
            x.club(i % 12, 9);
            x.ranked(i % 12);
            x.bands();
            x.chain(0, i % 12);
            x.tempt(i, 5000, 1);
            x.keep(0);
            x.again(0);
            x.undo();
            x.close(i % 4, 0);
        }
        return used() - before;
    }
}
