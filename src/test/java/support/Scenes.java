/** What several tests begin with. A letter that is sent here has 1000 and its own number as text. */
final class Scenes {
    static final int OPENED = 0, OLD = -1, FAR = -2, WRONG = -3;
    // Where in a letter things stand.
    static final int BEFORE = 32, NUMBER = 33, SEALED = 34, MARK = 42, BEGINNER = 50, ONE_TIME = 51, SHOWN = 52;

    private Scenes() { }

    /** End 0 is of 0, who began with 1, and letter 0 is his first. */
    static Both begun(String name, int seed, int oneTimes) {
        Both both = new Both(name, seed);
        for (int i = 0; i < oneTimes; i++) {
            both.due(i, "stock", 1);
        }
        both.due(0, "begin", 0, 1);
        send(both, 0, 1);
        return both;
    }

    /** The same without one-time secrets, and end 1 is of 1, who answered letter 0. */
    static Both answered(String name, int seed) {
        Both both = begun(name, seed, 0);
        both.due(1, "answer", 1, 0);
        return both;
    }

    /**
     * No room for anything: 8 one-time secrets of each person, 8 ends, 48 letters, of 84 bytes but
     * for 3 .. 14, which have 50; end 0 keeps the key for letter 3, end 1 for 0 and 1.
     */
    static Both full(String name, int seed) {
        Both both = new Both(name, seed);
        for (int i = 0; i < 32; i++) {
            both.due(i / 4, "stock", i % 4);
        }
        both.due(0, "begin", 0, 1);
        send(both, 0, 3);
        both.due(1, "answer", 1, 2);
        send(both, 1, 2);
        both.due(OPENED, "open", 0, 4);
        for (int end = 2; end < 8; end++) {
            both.due(end, "begin", end % 4, (end + 1) % 4);
        }
        send(both, 0, 10);
        for (int letter = 15; letter < 48; letter++) {
            send(both, 2 + letter % 6, 1);
        }
        return both;
    }

    static void send(Both both, int end, int n) {
        for (int i = 0; i < n; i++) {
            int letter = both.number("letters");
            both.due(letter, "send", end, 1000L + letter);
        }
    }

    /** A letter like another one with one bit of a byte turned: its number. */
    static int spoil(Both both, int letter, int at) {
        return both.number("forge", letter, at, both.number("wire", letter, at) ^ 1);
    }
}
