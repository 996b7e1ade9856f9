import java.lang.management.ManagementFactory;

/** All calls live in one room: an object is small, and its calls make nothing. */
public final class RoomTest {
    private static final Due due = new Due();

    public static void main(String[] args) {
        useAll(new WayWeights());
        long before = allocated();
        WayWeights x = new WayWeights();
        long made = allocated() - before;
        due.holds("an object takes " + made + " bytes", made < 30000);
        before = allocated();
        useAll(x);
        long used = allocated() - before;
        due.holds("its calls take " + used + " bytes", used < 5000);
        due.finish();
    }

    private static long allocated() {
        var threads = (com.sun.management.ThreadMXBean) ManagementFactory.getThreadMXBean();
        return threads.getCurrentThreadAllocatedBytes();
    }

    private static void useAll(WayWeights x) {
        x.boxes(6);
        for (int line = 0; line < 10; line++) {
            x.line(line % 6, (line + 1 + line / 6) % 6, 10 + line, 3 + line);
        }
        for (int pair = 0; pair < 36; pair++) {
            x.load(pair % 3, pair / 6, pair % 6, 50);
        }
        x.guard(true);
        for (int i = 0; i < 20; i++) {
            x.seek(2, 10);
            x.sought(0);
            x.better(0);
            x.all(3);
            x.ring(i % 10, 20);
            x.between(i % 10, 20);
            x.value(i % 10, 20, 0);
            x.who(i % 3, i % 10, 0);
            x.share(0, 5, i % 10, 0, 0);
            x.on(0, i % 10, 0, 0);
            x.worst(0, 0);
            x.grow(0, 0);
            x.year(0, 1);
            x.parted(0, i % 10);
            x.least(0, 5);
            x.next(0, 5);
            x.told(5);
        }
        x.take();
    }
}
