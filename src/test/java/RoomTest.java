import java.lang.management.ManagementFactory;

/**
 * The room in which all calls of a run live: some 7.3 million elements. It is held by the bytes that
 * the Java machine gives out to a new object and 512 calls of it, four of them for an element.
 */
public final class RoomTest {
    private static final long MOST = 4 * 7_300_000L;
    private static final int CALLS = 512;

    public static void main(String[] args) {
        // Once before, as the first time the machine makes things of its own.
        run();
        long used = run();
        System.out.println("an object and its calls: " + used + " bytes");
        Both.hold("a run has room", used < MOST ? "yes" : "no: " + used, "yes");
        Both.end();
    }

    private static long given() {
        return ((com.sun.management.ThreadMXBean) ManagementFactory.getThreadMXBean())
            .getThreadAllocatedBytes(Thread.currentThread().getId());
    }

    /** As many dear calls as an object is good for: what it and they took. */
    private static long run() {
        long start = given();
        RatchetDesk desk = new RatchetDesk(4);
        for (int i = 0; i < 8; i++) {
            desk.stock(i & 1);
        }
        desk.begin(0, 1);
        desk.send(0, 1);
        desk.answer(1, 0);
        int calls = 11;
        for (int i = 1; i < 47; i++) {
            desk.send(i & 1, i);
            desk.open(1 - (i & 1), i);
            desk.answer(1, 0);
            desk.agree(0, 1, 2);
            calls += 4;
        }
        desk.digest(128, 1);
        desk.mac(1, 2, 3);
        for (calls += 2; calls < CALLS; calls++) {
            desk.open(0, calls % 47);
        }
        return given() - start;
    }
}
