import java.lang.management.ManagementFactory;

/** What an object and its 512 dearest calls make stays small, since all of a run lives in one room. */
public final class RoomTest {
    private static final Checks CHECKS = new Checks("RoomTest");
    private static final long MOST_BYTES_A_ROAD = 64 * 1024;

    public static void main(String[] args) {
        for (int k = 0; k < 20; k++) {
            busyRun();
        }
        long before = bytesMade();
        busyRun();
        long made = bytesMade() - before;
        CHECKS.holds("an object with 512 calls makes few bytes, " + made, made < MOST_BYTES_A_ROAD);
        CHECKS.close();
    }

    private static long bytesMade() {
        com.sun.management.ThreadMXBean threads = (com.sun.management.ThreadMXBean) ManagementFactory.getThreadMXBean();
        return threads.getThreadAllocatedBytes(Thread.currentThread().getId());
    }

    private static int busyRun() {
        DroveRoads x = new DroveRoads();
        int sum = 0;
        for (int k = 0; k < 8; k++) {
            sum += x.stance(30);
        }
        for (int k = 0; k < 6; k++) {
            x.grass(k, 100000, 1000, 100000);
            sum += x.herd(500, 600, 1, 0);
        }
        // "when " "((1)" ") do" " res" "t;"
        for (int k = 0; k < 60; k++) {
            x.feed(0x7768656e, 0x20282831, 0x29292064, 0x6f207265, 0x73743b20);
            sum += x.orders(k % 6);
        }
        for (int k = 0; k < 100; k++) {
            sum += x.days(10);
            sum += x.gain(k % 6, 60) + x.act(k % 6, 60, 59) + x.length(k % 6, 60);
        }
        for (int k = 0; k < 20; k++) {
            sum += x.bill(1, 0, 0) + x.letter(k) + x.pass(0, 0, 1, k) + x.holder(0, k, k);
        }
        return sum;
    }
}
