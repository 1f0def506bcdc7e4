import com.sun.management.ThreadMXBean;
import java.lang.management.ManagementFactory;

/** An object takes little room, and its dearest calls take none. */
public final class RoomTest {
    private static final Due DUE = new Due("RoomTest");
    private static final ThreadMXBean THREADS = (ThreadMXBean) ManagementFactory.getThreadMXBean();

    private RoomTest() {
    }

    public static void main(String[] args) {
        bytes();
        bytes();
        long ahead = bytes();
        KeyTrees x = new KeyTrees();
        long made = bytes();
        int sum = 0;
        for (int round = 0; round < 25; round++) sum += dearest(x);
        long used = bytes();
        DUE.isTrue("answers " + sum, sum != 0);
        DUE.isTrue("an object takes " + (made - ahead) + " bytes", made - ahead < 200_000);
        DUE.isTrue("500 calls take " + (used - made) + " bytes", used - made < 20_000);
        DUE.end();
    }

    private static long bytes() {
        return THREADS.getThreadAllocatedBytes(Thread.currentThread().getId());
    }

    private static int dearest(KeyTrees x) {
        return x.drift(40) + x.image() + x.come(1) + x.restore() + x.undo() + x.sheet(0, 3, 24) + x.film(16, 0, 3, 0)
            + x.item(0, 3, 23, 1) + x.copy(0, 0, 0, 5, 19) + x.got(1, 0, 3, 0, 24) + x.opens(65535, 0) + x.due(0)
            + x.due(1) + x.type('!') + x.read() + x.luck(1, 1, 1) + x.mend(2) + x.lose(1, 2) + x.batch() + x.begin();
    }
}
