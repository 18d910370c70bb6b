import java.lang.management.ManagementFactory;

/** What a run of 512 calls makes must fit the one room that all calls of a run share. */
public final class RoomTest {
    /** An eighth of 7.3 million elements, each taken for a byte only. */
    private static final long MOST_BYTES = 7_300_000 / 8;
    private static final int CALLS = 512;

    private RoomTest() {
    }

    public static void main(String[] args) {
        checkRun("one order, many questions", false);
        checkRun("an order that changes all the time", true);
        Check.finish();
    }

    private static long bytesMade() {
        return ((com.sun.management.ThreadMXBean) ManagementFactory.getThreadMXBean())
                .getThreadAllocatedBytes(Thread.currentThread().getId());
    }

    private static void checkRun(String name, boolean changes) {
        runAll(changes);
        long start = bytesMade();
        long sum = runAll(changes);
        long made = bytesMade() - start;
        System.out.println(name + ": " + made + " bytes made (" + sum + ")");
        Check.due(name + " stays in its room", made <= MOST_BYTES, true);
    }

    private static long runAll(boolean changes) {
        OrderDesk desk = new OrderDesk();
        long sum = 0;
        // 3 * 14 and 7 * 6 calls until the crown stands
        for (int n = 1; n <= 14; n++) {
            sum += desk.begin(n) + desk.rows() + desk.count(5);
        }
        for (int a = 0; a < 7; a++) {
            for (int b = 0; b < 7; b++) {
                sum += a == b ? 0 : desk.put(a, 7 + b);
            }
        }
        for (int call = 84; call < CALLS; call++) {
            boolean change = changes && call % 2 == 0;
            sum += change ? change(desk, call / 2) : ask(desk, call);
        }
        return sum;
    }

    private static long change(OrderDesk desk, int i) {
        return i % 2 == 0 ? desk.free(i % 14) : desk.put(i % 7, 7 + i % 5);
    }

    private static long ask(OrderDesk desk, int i) {
        int v = i % 14;
        switch (i / 2 % 12) {
            case 0: return desk.rows();
            case 1: return desk.row(i);
            case 2: return desk.rank(0xDCBA9876543210L);
            case 3: return desk.before(v, (v + 3) % 14);
            case 4: return desk.places(v, 5);
            case 5: return desk.count(5);
            case 6: return desk.muOfCuts(0, i % 3 == 0 ? 127 : 15);
            case 7: return desk.least(1 << v);
            case 8: return desk.joined(1, 2, false);
            case 9: return desk.apart();
            case 10: return desk.next(v);
            default: return desk.mu(v, (v + 7) % 14);
        }
    }
}
