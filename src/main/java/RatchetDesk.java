/**
 * Sealed letters between people of whom the other one need not be there: a
 * first key by three or four agreements on a curve, then a key for each
 * letter, chains that only go on, and new agreements whenever the talk turns.
 *
 * <p>Bytes stand in rows of int, 0 .. 255 each, so that no sign gets in the
 * way. Every row is made in a constructor and used again: no call makes one.
 */
public final class RatchetDesk {
    public static final int OPENED = 0, OLD = -1, FAR = -2, WRONG = -3;
    public static final int NONE = -1;

    private static final int KEY = 32;
    private static final int PARTS = 4;
    private static final int DESK_KEYS = 4;
    private static final int PEOPLE = 4;
    private static final int ONE_TIMES = 8;
    private static final int ENDS = 8;
    private static final int LETTERS = 48;
    private static final int KEPT = 6;
    private static final int NO_ONE_TIME = 255;

    private final int seed;
    private final int[][] desk = new int[DESK_KEYS][KEY];
    private final Person[] people = new Person[PEOPLE];
    private final End[] talks = new End[ENDS];
    private final Letter[] post = new Letter[LETTERS];
    private final Secret passing = new Secret();
    private final Tools tools = new Tools();
    // An end is changed here first and then changes places with the one that
    // stands, so that an opening that fails leaves that one as it was.
    private End trial = new End();
    private int endCount;
    private int letterCount;
    private int secretCount;

    public RatchetDesk(int seed) {
        this.seed = seed;
        for (int i = 0; i < PEOPLE; i++) {
            people[i] = new Person();
        }
        for (int i = 0; i < ENDS; i++) {
            talks[i] = new End();
        }
        for (int i = 0; i < LETTERS; i++) {
            post[i] = new Letter();
        }
        makeFirstSecrets();
    }

    public void put(int k, int part, long v) throws IndexOutOfBoundsException {
        checkIndex(k, DESK_KEYS);
        checkIndex(part, PARTS);
        writeEight(desk[k], 8 * part, v);
    }

    public long get(int k, int part) throws IndexOutOfBoundsException {
        checkIndex(k, DESK_KEYS);
        checkIndex(part, PARTS);
        return readEight(desk[k], 8 * part);
    }

    public void agree(int k, int u, int into) throws IndexOutOfBoundsException {
        checkIndex(k, DESK_KEYS);
        checkIndex(u, DESK_KEYS);
        checkIndex(into, DESK_KEYS);
        tools.curve.reckon(desk[k], desk[u], desk[into]);
    }

    public void mac(int k, int m, int into) throws IndexOutOfBoundsException {
        checkIndex(k, DESK_KEYS);
        checkIndex(m, DESK_KEYS);
        checkIndex(into, DESK_KEYS);
        tools.hash.startMac(desk[k]);
        tools.hash.addRow(desk[m], KEY);
        tools.hash.finishMac(desk[into]);
    }

    public void digest(int n, int into) throws IndexOutOfBoundsException {
        checkIndex(n, DESK_KEYS * KEY + 1);
        checkIndex(into, DESK_KEYS);
        tools.hash.start();
        for (int i = 0; i < n; i++) {
            tools.hash.add(desk[i / KEY][i % KEY]);
        }
        tools.hash.finish(desk[into]);
    }

    public int stock(int person) throws IndexOutOfBoundsException, IllegalStateException {
        checkIndex(person, PEOPLE);
        Person owner = people[person];
        checkRoom(owner.made, ONE_TIMES);
        makeSecret(owner.oneTimes[owner.made]);
        return owner.offerNext();
    }

    public int offers(int person) throws IndexOutOfBoundsException {
        checkIndex(person, PEOPLE);
        return people[person].offered();
    }

    public int begin(int from, int to)
            throws IndexOutOfBoundsException, IllegalArgumentException, IllegalStateException {
        checkIndex(from, PEOPLE);
        checkIndex(to, PEOPLE);
        if (from == to) {
            throw new IllegalArgumentException("nobody begins with himself");
        }
        checkRoom(endCount, ENDS);
        makeSecret(passing);
        int oneTime = people[to].takeOffer();
        trial.renew(from, to);
        tieTrial(from, to);
        reckonRootOfBeginner(people[from], people[to], oneTime);
        copyKey(people[to].prekey.shown(tools.curve), trial.other);
        trial.introduce(from, oneTime, passing.shown(tools.curve));
        trial.turning = true;
        placeTrial(endCount);
        return endCount - 1;
    }

    public int send(int end, long text) throws IndexOutOfBoundsException, IllegalStateException {
        checkIndex(end, endCount);
        checkRoom(letterCount, LETTERS);
        talks[end].write(post[letterCount], text, tools);
        letterCount++;
        return letterCount - 1;
    }

    public int forge(int letter, int at, int value)
            throws IndexOutOfBoundsException, IllegalArgumentException, IllegalStateException {
        checkIndex(letter, letterCount);
        checkIndex(at, post[letter].size);
        if (value < 0 || value > 255) {
            throw new IllegalArgumentException("not a byte");
        }
        checkRoom(letterCount, LETTERS);
        post[letterCount].copyOf(post[letter]);
        post[letterCount].bytes[at] = value;
        letterCount++;
        return letterCount - 1;
    }

    public int answer(int person, int letter) throws IndexOutOfBoundsException, IllegalStateException {
        checkIndex(person, PEOPLE);
        checkIndex(letter, letterCount);
        checkRoom(endCount, ENDS);
        Letter first = post[letter];
        if (!canAnswer(person, first)) {
            return WRONG;
        }
        int beginner = first.beginner();
        int oneTime = first.oneTime();
        trial.renew(person, beginner);
        tieTrial(beginner, person);
        reckonRootOfAnswerer(people[beginner], people[person], first);
        trial.own.copyOf(people[person].prekey);
        int outcome = trial.take(first, tools);
        if (outcome != OPENED) {
            return outcome;
        }
        if (oneTime != NO_ONE_TIME) {
            people[person].use(oneTime);
        }
        placeTrial(endCount);
        return endCount - 1;
    }

    public int open(int end, int letter) throws IndexOutOfBoundsException {
        checkIndex(end, endCount);
        checkIndex(letter, letterCount);
        trial.copyOf(talks[end]);
        int outcome = trial.take(post[letter], tools);
        if (outcome == OPENED) {
            placeTrial(end);
        }
        return outcome;
    }

    public long text(int end) throws IndexOutOfBoundsException {
        checkIndex(end, endCount);
        return talks[end].lastText;
    }

    public int ends() {
        return endCount;
    }

    public int person(int end, boolean other) throws IndexOutOfBoundsException {
        checkIndex(end, endCount);
        return other ? talks[end].partner : talks[end].owner;
    }

    public int letters() {
        return letterCount;
    }

    public int length(int letter) throws IndexOutOfBoundsException {
        checkIndex(letter, letterCount);
        return post[letter].size;
    }

    public int wire(int letter, int at) throws IndexOutOfBoundsException {
        checkIndex(letter, letterCount);
        checkIndex(at, post[letter].size);
        return post[letter].bytes[at];
    }

    public int count(int end, int what) throws IndexOutOfBoundsException {
        checkIndex(end, endCount);
        End one = talks[end];
        switch (what) {
            case 0:
                return one.sending.passed;
            case 1:
                return one.receiving.passed;
            case 2:
                return one.before;
            case 3:
                return one.kept.size;
            default:
                return NONE;
        }
    }

    public boolean keeps(int end, int letter) throws IndexOutOfBoundsException {
        checkIndex(end, endCount);
        checkIndex(letter, letterCount);
        return talks[end].kept.find(post[letter]) != NONE;
    }

    public long word(int end, int what, int part) throws IndexOutOfBoundsException {
        checkIndex(end, endCount);
        checkIndex(part, PARTS);
        End one = talks[end];
        switch (what) {
            case 0:
                return readEight(one.root, 8 * part);
            case 1:
                return readEight(one.sending.key, 8 * part);
            case 2:
                return one.receiving.stands ? readEight(one.receiving.key, 8 * part) : 0;
            case 3:
                return readEight(one.own.shown(tools.curve), 8 * part);
            case 4:
                return readEight(one.other, 8 * part);
            default:
                return 0;
        }
    }

    private static void checkIndex(int i, int bound) {
        if (i < 0 || i >= bound) {
            throw new IndexOutOfBoundsException("there is no such thing");
        }
    }

    private static void checkRoom(int used, int room) {
        if (used >= room) {
            throw new IllegalStateException("there is no room for one more");
        }
    }

    private void makeFirstSecrets() {
        for (int i = 0; i < PEOPLE; i++) {
            makeSecret(people[i].identity);
        }
        for (int i = 0; i < PEOPLE; i++) {
            makeSecret(people[i].prekey);
        }
    }

    private void makeSecret(Secret secret) {
        secret.make(seed, secretCount, tools.hash);
        secretCount++;
    }

    private void tieTrial(int beginner, int other) {
        int[] first = people[beginner].identity.shown(tools.curve);
        int[] second = people[other].identity.shown(tools.curve);
        System.arraycopy(first, 0, trial.tie, 0, KEY);
        System.arraycopy(second, 0, trial.tie, KEY, KEY);
    }

    private void reckonRootOfBeginner(Person a, Person b, int oneTime) {
        tools.startRoot();
        tools.addAgreement(a.identity.key, b.prekey.shown(tools.curve));
        tools.addAgreement(passing.key, b.identity.shown(tools.curve));
        tools.addAgreement(passing.key, b.prekey.shown(tools.curve));
        if (oneTime != NO_ONE_TIME) {
            tools.addAgreement(passing.key, b.oneTimes[oneTime].shown(tools.curve));
        }
        tools.finishRoot(trial.root);
    }

    private void reckonRootOfAnswerer(Person a, Person b, Letter letter) {
        int[] shown = tools.shown;
        System.arraycopy(letter.bytes, Letter.SHOWN, shown, 0, KEY);
        tools.startRoot();
        tools.addAgreement(b.prekey.key, a.identity.shown(tools.curve));
        tools.addAgreement(b.identity.key, shown);
        tools.addAgreement(b.prekey.key, shown);
        if (letter.oneTime() != NO_ONE_TIME) {
            tools.addAgreement(b.oneTimes[letter.oneTime()].key, shown);
        }
        tools.finishRoot(trial.root);
    }

    private boolean canAnswer(int person, Letter letter) {
        if (letter.size != Letter.LONG || letter.beginner() >= PEOPLE || letter.beginner() == person) {
            return false;
        }
        return letter.oneTime() == NO_ONE_TIME || people[person].has(letter.oneTime());
    }

    /**
     * The trial becomes the end with this number, which may be a new one. Only here is a
     * secret made for a turn: an opening that failed never comes so far.
     */
    private void placeTrial(int end) {
        if (trial.turning) {
            makeSecret(trial.own);
            trial.before = trial.sending.passed;
            trial.sending.restart(trial.own.key, trial.other, trial.root, tools);
            trial.turning = false;
        }
        End former = talks[end];
        talks[end] = trial;
        trial = former;
        if (end == endCount) {
            endCount++;
        }
    }

    private static void copyKey(int[] from, int[] to) {
        System.arraycopy(from, 0, to, 0, KEY);
    }

    private static boolean sameBytes(int[] one, int at, int[] two, int n) {
        for (int i = 0; i < n; i++) {
            if (one[at + i] != two[i]) {
                return false;
            }
        }
        return true;
    }

    private static long readEight(int[] row, int at) {
        long v = 0;
        for (int i = 7; i >= 0; i--) {
            v = v << 8 | row[at + i];
        }
        return v;
    }

    private static void writeEight(int[] row, int at, long v) {
        for (int i = 0; i < 8; i++) {
            row[at + i] = (int) (v >>> (8 * i)) & 255;
        }
    }

    /** What the desk reckons with; one set of working rows serves all calls. */
    private static final class Tools {
        final Hash hash = new Hash();
        final Curve curve = new Curve();
        final Seal seal = new Seal();
        final int[] letterKey = new int[KEY];
        final int[] shown = new int[KEY];
        private final int[] agreed = new int[KEY];
        private final int[] unused = new int[KEY];

        void startRoot() {
            hash.startMac(hash.blank);
            for (int i = 0; i < KEY; i++) {
                hash.add(255);
            }
        }

        void addAgreement(int[] secret, int[] point) {
            curve.reckon(secret, point, agreed);
            hash.addRow(agreed, KEY);
        }

        void finishRoot(int[] root) {
            hash.finishSpread('X', root, unused);
        }
    }

    /** A secret key with its public one, which is reckoned only when it is asked for: it is dear. */
    private static final class Secret {
        final int[] key = new int[KEY];
        private final int[] point = new int[KEY];
        private boolean reckoned;

        void make(int seed, int number, Hash hash) {
            hash.start();
            hash.addWord(seed);
            hash.addWord(number);
            hash.finish(key);
            reckoned = false;
        }

        void copyOf(Secret other) {
            copyKey(other.key, key);
            copyKey(other.point, point);
            reckoned = other.reckoned;
        }

        int[] shown(Curve curve) {
            if (!reckoned) {
                curve.reckon(key, curve.nine, point);
                reckoned = true;
            }
            return point;
        }
    }

    private static final class Person {
        private static final int OFFERED = 1, TAKEN = 2, USED = 3;

        final Secret identity = new Secret();
        final Secret prekey = new Secret();
        final Secret[] oneTimes = new Secret[ONE_TIMES];
        private final int[] stages = new int[ONE_TIMES];
        int made;

        Person() {
            for (int i = 0; i < ONE_TIMES; i++) {
                oneTimes[i] = new Secret();
            }
        }

        int offerNext() {
            if (made < ONE_TIMES) {
                stages[made] = OFFERED;
                made++;
            }
            return made - 1;
        }

        int offered() {
            int n = 0;
            for (int i = 0; i < made; i++) {
                if (stages[i] == OFFERED) {
                    n++;
                }
            }
            return n;
        }

        int takeOffer() {
            for (int i = 0; i < made; i++) {
                if (stages[i] == OFFERED) {
                    stages[i] = TAKEN;
                    return i;
                }
            }
            return NO_ONE_TIME;
        }

        boolean has(int number) {
            return number < made && stages[number] != USED;
        }

        void use(int number) {
            if (number < made) {
                stages[number] = USED;
            }
        }
    }

    private static final class Letter {
        static final int BEFORE = 32, NUMBER = 33, HEADER = 34, MARK = 42, SHORT = 50;
        static final int BEGINNER = 50, ONE_TIME = 51, SHOWN = 52, LONG = 84;

        final int[] bytes = new int[LONG];
        int size;

        void copyOf(Letter other) {
            System.arraycopy(other.bytes, 0, bytes, 0, LONG);
            size = other.size;
        }

        int before() {
            return bytes[BEFORE];
        }

        int number() {
            return bytes[NUMBER];
        }

        int beginner() {
            return bytes[BEGINNER];
        }

        int oneTime() {
            return bytes[ONE_TIME];
        }

        boolean isUnder(int[] ratchetKey) {
            return sameBytes(bytes, 0, ratchetKey, KEY);
        }
    }

    /** Seals a letter's eight bytes under a letter key and reckons its mark. */
    private static final class Seal {
        private final int[] coverKey = new int[KEY];
        private final int[] markKey = new int[KEY];
        private final int[] cover = new int[KEY];
        private final int[] mark = new int[KEY];

        void prepare(int[] letterKey, Letter letter, Hash hash) {
            hash.startMac(hash.blank);
            hash.addRow(letterKey, KEY);
            hash.finishSpread('M', coverKey, markKey);
            hash.startMac(coverKey);
            hash.addRow(letter.bytes, Letter.HEADER);
            hash.finishMac(cover);
        }

        void reckonMark(int[] tie, Letter letter, Hash hash) {
            hash.startMac(markKey);
            hash.addRow(tie, 2 * KEY);
            hash.addRow(letter.bytes, Letter.MARK);
            hash.finishMac(mark);
        }

        void coverLetter(Letter letter) {
            for (int i = Letter.HEADER; i < Letter.MARK; i++) {
                letter.bytes[i] ^= cover[i - Letter.HEADER];
            }
        }

        void markLetter(Letter letter) {
            System.arraycopy(mark, 0, letter.bytes, Letter.MARK, Letter.SHORT - Letter.MARK);
        }

        boolean fits(Letter letter) {
            return sameBytes(letter.bytes, Letter.MARK, mark, Letter.SHORT - Letter.MARK);
        }

        long uncovered(Letter letter) {
            return readEight(letter.bytes, Letter.HEADER) ^ readEight(cover, 0);
        }
    }

    /** A chain and how many letters went by it. */
    private static final class Chain {
        final int[] key = new int[KEY];
        int passed;
        boolean stands;

        void clear() {
            passed = 0;
            stands = false;
        }

        void copyOf(Chain other) {
            copyKey(other.key, key);
            passed = other.passed;
            stands = other.stands;
        }

        /** By a new agreement; the root goes on with it. */
        void restart(int[] secret, int[] point, int[] root, Tools tools) {
            tools.hash.startMac(root);
            tools.addAgreement(secret, point);
            tools.hash.finishSpread('R', root, key);
            passed = 0;
            stands = true;
        }

        void step(Hash hash, int[] letterKey) {
            hash.startMac(key);
            hash.add(1);
            hash.finishMac(letterKey);
            hash.startMac(key);
            hash.add(2);
            hash.finishMac(key);
            passed++;
        }
    }

    /** The letter keys that an end keeps for letters that were passed over. */
    private static final class KeptKeys {
        private final int[][] ratchetKeys = new int[KEPT][KEY];
        private final int[][] letterKeys = new int[KEPT][KEY];
        private final int[] numbers = new int[KEPT];
        int size;

        void copyOf(KeptKeys other) {
            size = 0;
            for (int i = 0; i < other.size; i++) {
                keep(other.ratchetKeys[i], other.numbers[i], other.letterKeys[i]);
            }
        }

        void keep(int[] ratchetKey, int number, int[] letterKey) {
            if (size < KEPT) {
                copyKey(ratchetKey, ratchetKeys[size]);
                copyKey(letterKey, letterKeys[size]);
                numbers[size] = number;
                size++;
            }
        }

        int find(Letter letter) {
            for (int i = 0; i < size; i++) {
                if (numbers[i] == letter.number() && letter.isUnder(ratchetKeys[i])) {
                    return i;
                }
            }
            return NONE;
        }

        void takeOut(int at, int[] letterKey) {
            if (at < 0 || at >= size) {
                return;
            }
            copyKey(letterKeys[at], letterKey);
            size--;
            // The others keep their order, so that of two for the same header the older goes first.
            for (int i = at; i < size; i++) {
                copyKey(ratchetKeys[i + 1], ratchetKeys[i]);
                copyKey(letterKeys[i + 1], letterKeys[i]);
                numbers[i] = numbers[i + 1];
            }
        }
    }

    /** One side of a talk. */
    private static final class End {
        int owner;
        int partner;
        final int[] tie = new int[2 * KEY];
        final int[] root = new int[KEY];
        final Secret own = new Secret();
        final int[] other = new int[KEY];
        final Chain sending = new Chain();
        final Chain receiving = new Chain();
        int before;
        final KeptKeys kept = new KeptKeys();
        // What goes behind a letter as long as the other one may not know who began.
        private final int[] introduction = new int[Letter.LONG - Letter.SHORT];
        private boolean introduces;
        boolean turning;
        long lastText;

        void renew(int person, int otherPerson) {
            owner = person;
            partner = otherPerson;
            sending.clear();
            receiving.clear();
            before = 0;
            kept.size = 0;
            introduces = false;
            turning = false;
            lastText = 0;
        }

        void copyOf(End end) {
            owner = end.owner;
            partner = end.partner;
            System.arraycopy(end.tie, 0, tie, 0, 2 * KEY);
            copyKey(end.root, root);
            own.copyOf(end.own);
            copyKey(end.other, other);
            sending.copyOf(end.sending);
            receiving.copyOf(end.receiving);
            before = end.before;
            kept.copyOf(end.kept);
            System.arraycopy(end.introduction, 0, introduction, 0, introduction.length);
            introduces = end.introduces;
            turning = end.turning;
            lastText = end.lastText;
        }

        void introduce(int beginner, int oneTime, int[] shown) {
            introduction[Letter.BEGINNER - Letter.SHORT] = beginner;
            introduction[Letter.ONE_TIME - Letter.SHORT] = oneTime;
            System.arraycopy(shown, 0, introduction, Letter.SHOWN - Letter.SHORT, KEY);
            introduces = true;
        }

        void write(Letter letter, long plain, Tools tools) {
            copyKey(own.shown(tools.curve), letter.bytes);
            letter.bytes[Letter.BEFORE] = before;
            letter.bytes[Letter.NUMBER] = sending.passed;
            writeEight(letter.bytes, Letter.HEADER, plain);
            sending.step(tools.hash, tools.letterKey);
            tools.seal.prepare(tools.letterKey, letter, tools.hash);
            tools.seal.coverLetter(letter);
            tools.seal.reckonMark(tie, letter, tools.hash);
            tools.seal.markLetter(letter);
            letter.size = Letter.SHORT;
            if (introduces) {
                System.arraycopy(introduction, 0, letter.bytes, Letter.SHORT, introduction.length);
                letter.size = Letter.LONG;
            }
        }

        /** Changes this end whatever comes out: it is for the trial. Leaves the turn, where due, to come. */
        int take(Letter letter, Tools tools) {
            int at = kept.find(letter);
            turning = at == NONE && !(receiving.stands && letter.isUnder(other));
            if (at != NONE) {
                kept.takeOut(at, tools.letterKey);
            } else if (!turning && letter.number() < receiving.passed) {
                return OLD;
            } else if (kept.size + passedOver(letter) > KEPT) {
                return FAR;
            } else {
                if (turning) {
                    keepUpTo(receiving.stands ? letter.before() : 0, tools);
                    System.arraycopy(letter.bytes, 0, other, 0, KEY);
                    receiving.restart(own.key, other, root, tools);
                }
                keepUpTo(letter.number(), tools);
                receiving.step(tools.hash, tools.letterKey);
            }
            tools.seal.prepare(tools.letterKey, letter, tools.hash);
            tools.seal.reckonMark(tie, letter, tools.hash);
            if (!tools.seal.fits(letter)) {
                return WRONG;
            }
            lastText = tools.seal.uncovered(letter);
            introduces = false;
            return OPENED;
        }

        private int passedOver(Letter letter) {
            if (!turning) {
                return letter.number() - receiving.passed;
            }
            int behind = receiving.stands ? letter.before() - receiving.passed : 0;
            return letter.number() + (behind > 0 ? behind : 0);
        }

        private void keepUpTo(int number, Tools tools) {
            for (int i = receiving.passed; i < number; i++) {
                receiving.step(tools.hash, tools.letterKey);
                kept.keep(other, i, tools.letterKey);
            }
        }
    }

    /** DIGEST, MAC and SPREAD; the row that they are of is gathered here piece by piece. */
    private static final class Hash {
        // The longest row of all, with its tail: a pad of 64, then a key and four agreements.
        private static final int ROOM = 256;
        private static final int BLOCK = 64;
        private static final int[] SQUARE_ROOTS = {
            0x6a09e667, 0xbb67ae85, 0x3c6ef372, 0xa54ff53a, 0x510e527f, 0x9b05688c, 0x1f83d9ab, 0x5be0cd19};
        private static final int[] CUBE_ROOTS = {
            0x428a2f98, 0x71374491, 0xb5c0fbcf, 0xe9b5dba5, 0x3956c25b, 0x59f111f1, 0x923f82a4, 0xab1c5ed5,
            0xd807aa98, 0x12835b01, 0x243185be, 0x550c7dc3, 0x72be5d74, 0x80deb1fe, 0x9bdc06a7, 0xc19bf174,
            0xe49b69c1, 0xefbe4786, 0x0fc19dc6, 0x240ca1cc, 0x2de92c6f, 0x4a7484aa, 0x5cb0a9dc, 0x76f988da,
            0x983e5152, 0xa831c66d, 0xb00327c8, 0xbf597fc7, 0xc6e00bf3, 0xd5a79147, 0x06ca6351, 0x14292967,
            0x27b70a85, 0x2e1b2138, 0x4d2c6dfc, 0x53380d13, 0x650a7354, 0x766a0abb, 0x81c2c92e, 0x92722c85,
            0xa2bfe8a1, 0xa81a664b, 0xc24b8b70, 0xc76c51a3, 0xd192e819, 0xd6990624, 0xf40e3585, 0x106aa070,
            0x19a4c116, 0x1e376c08, 0x2748774c, 0x34b0bcb5, 0x391c0cb3, 0x4ed8aa4a, 0x5b9cca4f, 0x682e6ff3,
            0x748f82ee, 0x78a5636f, 0x84c87814, 0x8cc70208, 0x90befffa, 0xa4506ceb, 0xbef9a3f7, 0xc67178f2};

        final int[] blank = new int[KEY];
        private final int[] row = new int[ROOM];
        private int filled;
        private final int[] words = new int[BLOCK];
        private final int[] state = new int[8];
        private final int[] macKey = new int[KEY];
        private final int[] inner = new int[KEY];
        private final int[] spreadKey = new int[KEY];

        void start() {
            filled = 0;
        }

        void add(int b) {
            if (filled < ROOM) {
                row[filled] = b;
                filled++;
            }
        }

        void addRow(int[] bytes, int n) {
            for (int i = 0; i < n; i++) {
                add(bytes[i]);
            }
        }

        void addWord(int v) {
            for (int i = 0; i < 32; i += 8) {
                add((v >>> i) & 255);
            }
        }

        void finish(int[] into) {
            int bits = 8 * filled;
            add(128);
            for (int i = 0; i < BLOCK && filled % BLOCK != BLOCK - 8; i++) {
                add(0);
            }
            for (int i = 56; i >= 0; i -= 8) {
                add((int) ((long) bits >>> i) & 255);
            }
            System.arraycopy(SQUARE_ROOTS, 0, state, 0, 8);
            for (int at = 0; at + BLOCK <= filled; at += BLOCK) {
                fillWords(at);
                mixWords();
            }
            for (int i = 0; i < KEY; i++) {
                into[i] = (state[i >> 2] >>> (24 - 8 * (i & 3))) & 255;
            }
        }

        void startMac(int[] key) {
            copyKey(key, macKey);
            startPad(54);
        }

        void finishMac(int[] into) {
            finish(inner);
            startPad(92);
            addRow(inner, KEY);
            finish(into);
        }

        /** SPREAD of the key that startMac was given and the row that was added since. */
        void finishSpread(int character, int[] first, int[] second) {
            finishMac(spreadKey);
            startMac(spreadKey);
            add(character);
            add(1);
            finishMac(first);
            startMac(spreadKey);
            addRow(first, KEY);
            add(character);
            add(2);
            finishMac(second);
        }

        private void startPad(int mask) {
            start();
            for (int i = 0; i < KEY; i++) {
                add(macKey[i] ^ mask);
            }
            for (int i = KEY; i < BLOCK; i++) {
                add(mask);
            }
        }

        private void fillWords(int at) {
            for (int t = 0; t < 16; t++) {
                int i = at + 4 * t;
                words[t] = row[i] << 24 | row[i + 1] << 16 | row[i + 2] << 8 | row[i + 3];
            }
            for (int t = 16; t < 64; t++) {
                int v = words[t - 15];
                int w = words[t - 2];
                int low = (v >>> 7 | v << 25) ^ (v >>> 18 | v << 14) ^ (v >>> 3);
                int high = (w >>> 17 | w << 15) ^ (w >>> 19 | w << 13) ^ (w >>> 10);
                words[t] = words[t - 16] + low + words[t - 7] + high;
            }
        }

        private void mixWords() {
            int a = state[0], b = state[1], c = state[2], d = state[3];
            int e = state[4], f = state[5], g = state[6], h = state[7];
            for (int t = 0; t < 64; t++) {
                int x = h + ((e >>> 6 | e << 26) ^ (e >>> 11 | e << 21) ^ (e >>> 25 | e << 7))
                    + ((e & f) ^ (~e & g)) + CUBE_ROOTS[t] + words[t];
                int y = ((a >>> 2 | a << 30) ^ (a >>> 13 | a << 19) ^ (a >>> 22 | a << 10))
                    + ((a & b) ^ (a & c) ^ (b & c));
                h = g;
                g = f;
                f = e;
                e = d + x;
                d = c;
                c = b;
                b = a;
                a = x + y;
            }
            state[0] += a;
            state[1] += b;
            state[2] += c;
            state[3] += d;
            state[4] += e;
            state[5] += f;
            state[6] += g;
            state[7] += h;
        }
    }

    /**
     * AGREE. A number mod p is ten limbs of 26 and 25 bits by turns, signed, so
     * that a product's sums stay below 2^63 even of sums and differences of two.
     */
    private static final class Curve {
        private static final int LIMBS = 10;
        private static final long HALF_26 = 1L << 25, HALF_25 = 1L << 24;

        final int[] nine = new int[KEY];
        private final long[] u = new long[LIMBS];
        private final long[] a = new long[LIMBS];
        private final long[] b = new long[LIMBS];
        private final long[] c = new long[LIMBS];
        private final long[] d = new long[LIMBS];
        private final long[] sum = new long[LIMBS];
        private final long[] gap = new long[LIMBS];
        private final long[] m = new long[LIMBS];
        private final long[] n = new long[LIMBS];
        private final long[] e = new long[LIMBS];
        private final long[] f = new long[LIMBS];
        private final long[] g = new long[LIMBS];

        Curve() {
            nine[0] = 9;
        }

        void reckon(int[] secret, int[] point, int[] into) {
            readNumber(point, u);
            setNumber(a, 1);
            setNumber(b, 0);
            System.arraycopy(u, 0, c, 0, LIMBS);
            setNumber(d, 1);
            for (int t = 254; t >= 0; t--) {
                // To change places, step and change back is to step with the places changed.
                if (isSet(secret, t)) {
                    step(c, d, a, b);
                } else {
                    step(a, b, c, d);
                }
            }
            invert(b, c);
            multiply(a, c, a);
            reduce(a);
            writeNumber(a, into);
        }

        private static boolean isSet(int[] secret, int t) {
            return t == 254 || t > 2 && ((secret[t >> 3] >> (t & 7)) & 1) == 1;
        }

        private void step(long[] p, long[] q, long[] r, long[] s) {
            add(p, q, sum);
            subtract(p, q, gap);
            multiply(sum, sum, m);
            multiply(gap, gap, n);
            subtract(m, n, e);
            subtract(r, s, f);
            multiply(f, sum, f);
            add(r, s, g);
            multiply(g, gap, g);
            add(f, g, r);
            multiply(r, r, r);
            subtract(f, g, s);
            multiply(s, s, s);
            multiply(u, s, s);
            multiply(m, n, p);
            scale(e, q);
            add(m, q, q);
            multiply(e, q, q);
        }

        /** into = x^(p - 2): in p - 2 all bits from 254 down are 1 but for 4 and 2. */
        private static void invert(long[] x, long[] into) {
            System.arraycopy(x, 0, into, 0, LIMBS);
            for (int t = 253; t >= 0; t--) {
                multiply(into, into, into);
                if (t != 4 && t != 2) {
                    multiply(into, x, into);
                }
            }
        }

        private static void setNumber(long[] x, int v) {
            for (int i = 0; i < LIMBS; i++) {
                x[i] = 0;
            }
            x[0] = v;
        }

        /** The limbs have 255 bits together: bit 255 of the key does not count. */
        private static void readNumber(int[] key, long[] into) {
            int at = 0;
            for (int i = 0; i < LIMBS; i++) {
                int bits = 26 - (i & 1);
                into[i] = 0;
                for (int j = 0; j < bits; j++) {
                    into[i] |= (long) ((key[at >> 3] >> (at & 7)) & 1) << j;
                    at++;
                }
            }
        }

        private static void writeNumber(long[] x, int[] key) {
            for (int i = 0; i < KEY; i++) {
                key[i] = 0;
            }
            int at = 0;
            for (int i = 0; i < LIMBS; i++) {
                int bits = 26 - (i & 1);
                for (int j = 0; j < bits; j++) {
                    key[at >> 3] |= (int) ((x[i] >> j) & 1) << (at & 7);
                    at++;
                }
            }
        }

        /** Brings a product, whose balanced limbs keep it between -p and p, to 0 .. p - 1. */
        private static void reduce(long[] x) {
            long sign = 0;
            for (int i = 0; i < LIMBS; i++) {
                sign = (x[i] + sign) >> (26 - (i & 1));
            }
            // The carry past bit 255 is dropped: with 19 taken away that adds p to what is below 0.
            long carry = 19 * sign;
            for (int i = 0; i < LIMBS; i++) {
                int bits = 26 - (i & 1);
                long v = x[i] + carry;
                carry = v >> bits;
                x[i] = v - (carry << bits);
            }
        }

        private static void add(long[] x, long[] y, long[] into) {
            for (int i = 0; i < LIMBS; i++) {
                into[i] = x[i] + y[i];
            }
        }

        private static void subtract(long[] x, long[] y, long[] into) {
            for (int i = 0; i < LIMBS; i++) {
                into[i] = x[i] - y[i];
            }
        }

        private static void scale(long[] x, long[] into) {
            long carry = 0;
            for (int i = 0; i < LIMBS; i++) {
                int bits = 26 - (i & 1);
                long v = 121665 * x[i] + carry;
                carry = (v + (1L << (bits - 1))) >> bits;
                into[i] = v - (carry << bits);
            }
            into[0] += 19 * carry;
        }

        // Written out limb by limb: nearly all of the desk's time goes by here. Where
        // both limbs are odd the product counts twice; past 2^255 it counts 19 times.
        private static void multiply(long[] x, long[] y, long[] into) {
            long x0 = x[0], x1 = x[1], x2 = x[2], x3 = x[3], x4 = x[4];
            long x5 = x[5], x6 = x[6], x7 = x[7], x8 = x[8], x9 = x[9];
            long y0 = y[0], y1 = y[1], y2 = y[2], y3 = y[3], y4 = y[4];
            long y5 = y[5], y6 = y[6], y7 = y[7], y8 = y[8], y9 = y[9];
            long z1 = 19 * y1, z2 = 19 * y2, z3 = 19 * y3, z4 = 19 * y4, z5 = 19 * y5;
            long z6 = 19 * y6, z7 = 19 * y7, z8 = 19 * y8, z9 = 19 * y9;
            long h0 = x0 * y0 + x2 * z8 + x4 * z6 + x6 * z4 + x8 * z2
                + 2 * (x1 * z9 + x3 * z7 + x5 * z5 + x7 * z3 + x9 * z1);
            long h1 = x0 * y1 + x1 * y0 + x2 * z9 + x3 * z8 + x4 * z7
                + x5 * z6 + x6 * z5 + x7 * z4 + x8 * z3 + x9 * z2;
            long h2 = x0 * y2 + x2 * y0 + x4 * z8 + x6 * z6 + x8 * z4
                + 2 * (x1 * y1 + x3 * z9 + x5 * z7 + x7 * z5 + x9 * z3);
            long h3 = x0 * y3 + x1 * y2 + x2 * y1 + x3 * y0 + x4 * z9
                + x5 * z8 + x6 * z7 + x7 * z6 + x8 * z5 + x9 * z4;
            long h4 = x0 * y4 + x2 * y2 + x4 * y0 + x6 * z8 + x8 * z6
                + 2 * (x1 * y3 + x3 * y1 + x5 * z9 + x7 * z7 + x9 * z5);
            long h5 = x0 * y5 + x1 * y4 + x2 * y3 + x3 * y2 + x4 * y1
                + x5 * y0 + x6 * z9 + x7 * z8 + x8 * z7 + x9 * z6;
            long h6 = x0 * y6 + x2 * y4 + x4 * y2 + x6 * y0 + x8 * z8
                + 2 * (x1 * y5 + x3 * y3 + x5 * y1 + x7 * z9 + x9 * z7);
            long h7 = x0 * y7 + x1 * y6 + x2 * y5 + x3 * y4 + x4 * y3
                + x5 * y2 + x6 * y1 + x7 * y0 + x8 * z9 + x9 * z8;
            long h8 = x0 * y8 + x2 * y6 + x4 * y4 + x6 * y2 + x8 * y0
                + 2 * (x1 * y7 + x3 * y5 + x5 * y3 + x7 * y1 + x9 * z9);
            long h9 = x0 * y9 + x1 * y8 + x2 * y7 + x3 * y6 + x4 * y5
                + x5 * y4 + x6 * y3 + x7 * y2 + x8 * y1 + x9 * y0;
            long t = (h0 + HALF_26) >> 26; h1 += t; h0 -= t << 26;
            t = (h1 + HALF_25) >> 25; h2 += t; into[1] = h1 - (t << 25);
            t = (h2 + HALF_26) >> 26; h3 += t; into[2] = h2 - (t << 26);
            t = (h3 + HALF_25) >> 25; h4 += t; into[3] = h3 - (t << 25);
            t = (h4 + HALF_26) >> 26; h5 += t; into[4] = h4 - (t << 26);
            t = (h5 + HALF_25) >> 25; h6 += t; into[5] = h5 - (t << 25);
            t = (h6 + HALF_26) >> 26; h7 += t; into[6] = h6 - (t << 26);
            t = (h7 + HALF_25) >> 25; h8 += t; into[7] = h7 - (t << 25);
            t = (h8 + HALF_26) >> 26; h9 += t; into[8] = h8 - (t << 26);
            t = (h9 + HALF_25) >> 25; h0 += 19 * t; into[9] = h9 - (t << 25);
            t = (h0 + HALF_26) >> 26; into[1] += t; into[0] = h0 - (t << 26);
        }
    }
}
