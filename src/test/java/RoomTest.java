import com.sun.management.ThreadMXBean;
import java.lang.management.ManagementFactory;

/** Calls make no objects (but exceptions), however dear they are, and one object of the class stays small. */
public final class RoomTest {
    private static final ThreadMXBean THREADS = (ThreadMXBean) ManagementFactory.getThreadMXBean();

    private static long made() {
        return THREADS.getThreadAllocatedBytes(Thread.currentThread().getId());
    }

    private static void call(Slidingtray x, int turn) {
        x.setWeight(1, 1 + turn % 9);
        x.setFree(0, turn % 2 == 0);
        x.mix(turn, 20);
        x.part(2 | 4 | 8);
        x.part(16 | 32);
        x.solve(turn % 5);
        x.errors();
        x.far(turn % 6);
        x.isFair(turn % 5);
        x.onlyWay(turn);
        x.keep(0);
        x.restore(0);
    }

    public static void main(String[] args) {
        made();
        long before = made();
        Slidingtray x = new Slidingtray();
        long size = made() - before;
        Check.holds("a new object takes " + size + " bytes", size < 1000000);
        x.setLimit(1000);
        x.tray(2, 3, 0);
        call(x, 0);
        before = made();
        for (int turn = 1; turn <= 40; turn++) {
            call(x, turn);
        }
        long more = made() - before;
        Check.holds("480 calls make " + more + " bytes", more < 20000);
        Check.end();
    }
}
