import java.util.Random;

/** All promises: runs of calls at random, each answer held against the model's. */
public final class RandomRunsTest {
    private static final int RUNS = 80;
    // A step asks for what there is before it calls.
    private static final int MOST_AT_ONCE = 4;

    private final Random random;
    private final Both both;
    private final boolean wild;

    private RandomRunsTest(int run) {
        random = new Random(7919L * run);
        both = new Both("run " + run, random.nextInt());
        wild = run % 4 == 3;
    }

    public static void main(String[] args) {
        for (int run = 0; run < RUNS; run++) {
            RandomRunsTest test = new RandomRunsTest(run);
            while (test.both.callsLeft() >= MOST_AT_ONCE) {
                test.anyCall();
            }
        }
        Both.end();
    }

    /** Mostly 0 .. n - 1, now and then beside. */
    private int near(int n) {
        if (random.nextInt(wild ? 8 : 60) == 0) {
            int[] odd = {-1, n, n + 1, 255, Integer.MIN_VALUE, Integer.MAX_VALUE};
            return odd[random.nextInt(odd.length)];
        }
        return n > 0 ? random.nextInt(n) : 0;
    }

    /** A letter, the later ones more often. */
    private int letter() {
        int n = both.number("letters");
        return random.nextInt(3) == 0 || n == 0 ? near(n) : n - 1 - random.nextInt(Math.min(n, 5));
    }

    private int end() {
        return near(both.number("ends"));
    }

    private void anyCall() {
        int dice = random.nextInt(100);
        if (dice < 3) {
            both.call("stock", near(4));
        } else if (dice < 6) {
            both.call("begin", near(4), random.nextInt(3) == 0 ? near(4) : near(2));
        } else if (dice < 22) {
            both.call("send", end(), random.nextLong());
        } else if (dice < 30) {
            forge();
        } else if (dice < 40) {
            both.call("answer", near(random.nextBoolean() ? 2 : 4), letter());
        } else if (dice < 75) {
            both.call("open", end(), letter());
        } else if (dice < 80) {
            desk();
        } else {
            look(random.nextInt(8));
        }
    }

    private void forge() {
        int[] telling = {0, 31, 32, 33, 34, 42, 49, 50, 51, 52, 83};
        int letter = letter();
        int at = random.nextBoolean() ? telling[random.nextInt(telling.length)] : near(84);
        if (random.nextInt(4) == 0) {
            String was = both.call("wire", letter, at);
            both.call("forge", letter, at, was.startsWith("throws") ? 0 : Integer.parseInt(was));
        } else {
            both.call("forge", letter, at, random.nextBoolean() ? near(9) : near(256));
        }
    }

    private void desk() {
        switch (random.nextInt(5)) {
            case 0 -> both.call("put", near(4), near(4), random.nextLong());
            case 1 -> both.call("get", near(4), near(4));
            case 2 -> both.call("agree", near(4), near(4), near(4));
            case 3 -> both.call("mac", near(4), near(4), near(4));
            default -> both.call("digest", near(129), near(4));
        }
    }

    private void look(int what) {
        switch (what) {
            case 0 -> both.call("text", end());
            case 1 -> both.call("person", end(), random.nextBoolean());
            case 2 -> both.call("length", letter());
            case 3 -> both.call("wire", letter(), near(84));
            case 4 -> both.call("count", end(), near(5));
            case 5 -> both.call("keeps", end(), letter());
            case 6 -> both.call("offers", near(4));
            default -> both.call("word", end(), near(6), near(4));
        }
    }
}
