import java.lang.management.ManagementFactory;

/** The room: what an object and its 512 calls make, by the bytes that the Java machine gives out. */
public final class RoomTest {
    // Of 7.3 million elements an int has four bytes: this is far below.
    private static final long MOST_FOR_AN_OBJECT = 200_000;
    private static final long MOST_FOR_ITS_CALLS = 20_000;

    public static void main(String[] args) {
        run();
        long start = given();
        RatchetDesk desk = new RatchetDesk(3);
        long made = given() - start;
        long called = run();
        System.out.println("an object: " + made + " bytes, its calls: " + called + " bytes");
        Both.hold("an object is small", made < MOST_FOR_AN_OBJECT ? "yes" : "no: " + made, "yes");
        Both.hold("calls make next to nothing", called < MOST_FOR_ITS_CALLS ? "yes" : "no: " + called, "yes");
        Both.hold("a new object", "" + desk.ends(), "0");
        Both.end();
    }

    private static long given() {
        return ((com.sun.management.ThreadMXBean) ManagementFactory.getThreadMXBean())
            .getThreadAllocatedBytes(Thread.currentThread().getId());
    }

    /** 500 calls, the dear ones most of all: what they took. */
    private static long run() {
        RatchetDesk desk = new RatchetDesk(4);
        long start = given();
        for (int i = 0; i < 8; i++) {
            desk.stock(i & 1);
        }
        desk.begin(0, 1);
        int letter = desk.send(0, 1);
        int end = desk.answer(1, letter);
        for (int i = 0; i < 46; i++) {
            letter = desk.send(i & 1, i);
            desk.open(1 - (i & 1), letter);
            desk.open(end, 0);
            desk.answer(1, 0);
            desk.agree(0, 1, 2);
        }
        for (int i = 0; i < 250; i++) {
            desk.open(0, i % desk.letters());
        }
        desk.digest(128, 1);
        desk.mac(1, 2, 3);
        return given() - start;
    }
}
