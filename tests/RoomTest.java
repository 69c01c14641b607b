import com.sun.management.ThreadMXBean;
import java.lang.management.ManagementFactory;

/** All calls of a run live in one room: what an object takes, that calls make nothing, and that they end soon. */
public final class RoomTest {
    private static final Due DUE = new Due();
    private static final ThreadMXBean BEAN = (ThreadMXBean) ManagementFactory.getThreadMXBean();
    // What the bean itself makes between two looks, with much to spare; one row a call would be far above.
    private static final long SLACK = 4096;
    // Of a room of 7.3 million elements, for a run's object: less than a thousandth.
    private static final long MOST_BYTES = 16384;
    private static final int DEAR = 128;
    private static UnderTheRoof kept;

    public static void main(String[] args) {
        object();
        calls();
        DUE.end("RoomTest");
    }

    private static long made() {
        return BEAN.getThreadAllocatedBytes(Thread.currentThread().getId());
    }

    private static void object() {
        kept = new UnderTheRoof();
        long before = made();
        kept = new UnderTheRoof();
        long bytes = made() - before;
        DUE.holds("an object takes " + bytes + " bytes", bytes < MOST_BYTES);
    }

    /** As much as there can be, by a rule as long as can be, all of like cost so that nothing is left out. */
    private static UnderTheRoof full() {
        UnderTheRoof x = new UnderTheRoof();
        StringBuilder text = new StringBuilder("falls 9+rain;harms size");
        while (text.length() < 140) {
            text.append(text.length() % 4 < 2 ? "-1" : "+1");
        }
        Roof.rule(x, text.append(";wakes gone;").toString());
        for (int i = 0; i < 6; i++) {
            x.drip(i, 10 * i + 5, i);
        }
        for (int v = 0; v < 5; v++) {
            x.vessel(20 + v);
            x.put(v, v);
        }
        Roof.rainAll(x, 3);
        x.set(1, 0, 0x924924);
        Roof.sheet(x, 0, 0, 1, 2, 3, 4, 5);
        return x;
    }

    private static long each(UnderTheRoof x, int i) {
        switch (i % 16) {
            case 0:
                return x.stand(i % 5);
            case 1:
                return x.rise(3, 1);
            case 2:
                return x.lead(0);
            case 3:
                return x.seen(0, 23, 0);
            case 4:
                return x.strange(0, 23);
            case 5:
                return x.chance(i, 20, 0);
            case 6:
                return x.sorted(1);
            case 7:
                return x.more(2, 9);
            case 8:
                return x.image();
            case 9:
                return x.back();
            case 10:
                return x.text();
            case 11:
                return x.sheet(1, 2, 40);
            case 12:
                return x.copy(1, 0, 1, 1, 39);
            case 13:
                return x.rains(1, 2, 0, 0);
            case 14:
                return x.pass(3);
            default:
                return x.water(0, 23, 0) + x.tile(0) + x.gone() + x.drawn(i) + x.day(2) + x.falls(0, 0, 0)
                    + x.feed(40) + x.told(0, 0) + x.taken(0, 0) + x.count(8);
        }
    }

    private static void calls() {
        UnderTheRoof x = full();
        each(x, 0);
        made();
        long before = made();
        long sum = 0;
        for (int i = 0; i < 512; i++) {
            sum += each(x, i);
        }
        long bytes = made() - before;
        DUE.holds("512 calls make " + bytes + " bytes", bytes < SLACK);
        long start = System.nanoTime();
        for (int i = 0; i < DEAR; i++) {
            sum += x.stand(i % 5) + x.rise(3, 0);
        }
        long seconds = (System.nanoTime() - start) / 1000000000L;
        System.out.println(DEAR + " times stand and rise: " + seconds + " s (" + sum + ")");
        DUE.holds(DEAR + " times stand and rise take " + seconds + " s", seconds < 120);
    }
}
