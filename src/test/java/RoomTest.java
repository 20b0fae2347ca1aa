import com.sun.management.ThreadMXBean;
import java.lang.management.ManagementFactory;
import java.util.NoSuchElementException;

/** The dearest calls make (almost) nothing: all of a run must live in one room. */
public final class RoomTest {
    private static final long MOST_BYTES = 4_000_000;

    public static void main(String[] args) {
        Due due = new Due("RoomTest");
        ThreadMXBean threads = (ThreadMXBean) ManagementFactory.getThreadMXBean();
        long self = Thread.currentThread().getId();
        run();
        long before = threads.getThreadAllocatedBytes(self);
        run();
        long bytes = threads.getThreadAllocatedBytes(self) - before;
        due.is("a run of 512 calls took " + bytes + " bytes", bytes < MOST_BYTES, true);
        due.close();
    }

    private static void run() {
        RiverWage x = new RiverWage();
        for (int k = 0; k < 18; k++) {
            x.kitchen(k, k % 2, 400 + k, 50, true);
            x.call(k, 0, k, 3);
            x.call(k, 11, 2 * k % 7, k);
        }
        StringBuilder text = new StringBuilder("hire 1");
        while (text.length() < 990) {
            text.append("+draw");
        }
        String law = text + ";";
        for (int i = 0; i < 4; i++) {
            Texts.law(x, i, law);
        }
        long sum = 0;
        for (int i = 0; i < 48; i++) {
            sum += x.best(20) + x.rivers(0, 20, 0, 11, 0) + x.forks(0) + x.lots(0, 11, 4, 0) + x.needed(0, 11, 100);
            sum += x.choosing(0, 11, 9, 0);
            try {
                sum += x.river(0, 0, 0, 0);
            } catch (NoSuchElementException e) {
                sum++;
            }
        }
        if (sum == Long.MIN_VALUE) {
            System.out.println("never");
        }
    }
}
