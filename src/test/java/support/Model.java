import java.io.ByteArrayOutputStream;
import java.math.BigInteger;
import java.security.GeneralSecurityException;
import java.security.MessageDigest;
import java.util.ArrayList;
import java.util.Arrays;
import java.util.HashMap;
import java.util.List;
import java.util.Map;
import java.util.TreeMap;
import javax.crypto.Mac;
import javax.crypto.spec.SecretKeySpec;

/**
 * The document once more, by the Java library's SHA-256, HMAC and BigInteger and with rows that are
 * joined and copied at will: what RatchetDesk's answers are held against.
 */
public final class Model {
    private static final int OPENED = 0, OLD = -1, FAR = -2, WRONG = -3, NONE = -1;
    static final BigInteger P = BigInteger.TWO.pow(255).subtract(BigInteger.valueOf(19));
    private static final Map<String, byte[]> AGREED = new HashMap<>();

    /** A kept letter key. */
    private record Kept(byte[] ratchet, int number, byte[] key) { }

    /** A one-time secret. */
    private static final class OneTime {
        final byte[] secret;
        boolean onOffer = true;
        boolean used;

        OneTime(byte[] secret) {
            this.secret = secret;
        }
    }

    /** One side of a talk; all rows in it are replaced, never changed. */
    private static final class Side implements Cloneable {
        int me, other;
        byte[] tie, root, secret, theirs, sending, receiving, tail, dueMark;
        int sent, come, before;
        List<Kept> kept = new ArrayList<>();
        boolean opened, mustTurn;
        long text;

        Side copy() {
            try {
                Side s = (Side) clone();
                s.kept = new ArrayList<>(kept);
                return s;
            } catch (CloneNotSupportedException e) {
                throw new AssertionError(e);
            }
        }
    }

    private final int seed;
    private int made = 8;
    private final byte[][] desk = new byte[4][32];
    private final List<List<OneTime>> oneTimes = new ArrayList<>();
    private final List<Side> sides = new ArrayList<>();
    private final List<byte[]> letters = new ArrayList<>();

    public Model(int seed) {
        this.seed = seed;
        for (int i = 0; i < 4; i++) {
            oneTimes.add(new ArrayList<>());
        }
    }

    // The arithmetic.

    static byte[] row(Object... parts) {
        ByteArrayOutputStream out = new ByteArrayOutputStream();
        for (Object part : parts) {
            if (part instanceof byte[] bytes) {
                out.writeBytes(bytes);
            } else if (part instanceof Character c) {
                out.write(c);
            } else {
                out.write((Integer) part);
            }
        }
        return out.toByteArray();
    }

    static byte[] sha(byte[] row) {
        try {
            return MessageDigest.getInstance("SHA-256").digest(row);
        } catch (GeneralSecurityException e) {
            throw new AssertionError(e);
        }
    }

    static byte[] hmac(byte[] key, byte[] row) {
        try {
            Mac mac = Mac.getInstance("HmacSHA256");
            mac.init(new SecretKeySpec(key, "HmacSHA256"));
            return mac.doFinal(row);
        } catch (GeneralSecurityException e) {
            throw new AssertionError(e);
        }
    }

    private static byte[][] spread(byte[] s, byte[] m, char c) {
        byte[] q = hmac(s, m);
        byte[] first = hmac(q, row(c, 1));
        return new byte[][] {first, hmac(q, row(first, c, 2))};
    }

    private static BigInteger number(byte[] key) {
        byte[] turned = new byte[32];
        for (int i = 0; i < 32; i++) {
            turned[i] = key[31 - i];
        }
        return new BigInteger(1, turned);
    }

    static byte[] x25519(byte[] k, byte[] u) {
        return AGREED.computeIfAbsent(Arrays.toString(k) + Arrays.toString(u), s -> ladder(k, u)).clone();
    }

    private static byte[] ladder(byte[] k, byte[] point) {
        return keyOf(ladder(scalar(k), number(point).clearBit(255).mod(P)));
    }

    static BigInteger scalar(byte[] k) {
        return number(k).clearBit(0).clearBit(1).clearBit(2).clearBit(255).setBit(254);
    }

    /** The loop of AGREE for a number of at most 255 bits, as it is. */
    static BigInteger ladder(BigInteger scalar, BigInteger u) {
        BigInteger a = BigInteger.ONE, b = BigInteger.ZERO, c = u, d = BigInteger.ONE;
        for (int t = 254; t >= 0; t--) {
            boolean bit = scalar.testBit(t);
            if (bit) {
                BigInteger x = a; a = c; c = x;
                x = b; b = d; d = x;
            }
            BigInteger m = a.add(b).pow(2).mod(P), n = a.subtract(b).pow(2).mod(P), e = m.subtract(n);
            BigInteger f = c.subtract(d).multiply(a.add(b)), g = c.add(d).multiply(a.subtract(b));
            c = f.add(g).pow(2).mod(P);
            d = u.multiply(f.subtract(g).pow(2)).mod(P);
            a = m.multiply(n).mod(P);
            b = e.multiply(m.add(e.multiply(BigInteger.valueOf(121665)))).mod(P);
            if (bit) {
                BigInteger x = a; a = c; c = x;
                x = b; b = d; d = x;
            }
        }
        return a.multiply(b.modPow(P.subtract(BigInteger.TWO), P)).mod(P);
    }

    static byte[] keyOf(BigInteger number) {
        byte[] key = new byte[32];
        for (int i = 0; i < 32; i++) {
            key[i] = number.shiftRight(8 * i).byteValue();
        }
        return key;
    }

    private static byte[] shown(byte[] secret) {
        byte[] nine = new byte[32];
        nine[0] = 9;
        return x25519(secret, nine);
    }

    private static byte[] key(int every) {
        byte[] k = new byte[32];
        Arrays.fill(k, (byte) every);
        return k;
    }

    private static byte[] lowFirst(long v, int n) {
        byte[] b = new byte[n];
        for (int i = 0; i < n; i++) {
            b[i] = (byte) (v >> 8 * i);
        }
        return b;
    }

    private static long eight(byte[] row, int at) {
        return number(Arrays.copyOf(Arrays.copyOfRange(row, at, at + 8), 32)).longValue();
    }

    // What is refused.

    private static void index(int i, int bound) {
        if (i < 0 || i >= bound) {
            throw new IndexOutOfBoundsException();
        }
    }

    private static void room(int used, int room) {
        if (used >= room) {
            throw new IllegalStateException();
        }
    }

    // Secrets.

    private byte[] secret(int j) {
        return sha(row(lowFirst(seed, 4), lowFirst(j, 4)));
    }

    private byte[] identity(int person) {
        return secret(person);
    }

    private byte[] prekey(int person) {
        return secret(4 + person);
    }

    // The face.

    public void put(int k, int part, long v) {
        index(k, 4);
        index(part, 4);
        System.arraycopy(lowFirst(v, 8), 0, desk[k], 8 * part, 8);
    }

    public long get(int k, int part) {
        index(k, 4);
        index(part, 4);
        return eight(desk[k], 8 * part);
    }

    public void agree(int k, int u, int into) {
        index(k, 4);
        index(u, 4);
        index(into, 4);
        desk[into] = x25519(desk[k], desk[u]);
    }

    public void mac(int k, int m, int into) {
        index(k, 4);
        index(m, 4);
        index(into, 4);
        desk[into] = hmac(desk[k], desk[m]);
    }

    public void digest(int n, int into) {
        index(n, 129);
        index(into, 4);
        desk[into] = sha(Arrays.copyOf(row((Object[]) desk), n));
    }

    public int stock(int person) {
        index(person, 4);
        room(oneTimes.get(person).size(), 8);
        oneTimes.get(person).add(new OneTime(secret(made++)));
        return oneTimes.get(person).size() - 1;
    }

    public int offers(int person) {
        index(person, 4);
        return (int) oneTimes.get(person).stream().filter(o -> o.onOffer).count();
    }

    public int begin(int from, int to) {
        index(from, 4);
        index(to, 4);
        if (from == to) {
            throw new IllegalArgumentException();
        }
        room(sides.size(), 8);
        byte[] e = secret(made++);
        byte[] theirPrekey = shown(prekey(to));
        byte[] agreements = row(x25519(identity(from), theirPrekey), x25519(e, shown(identity(to))),
            x25519(e, theirPrekey));
        int told = 255;
        for (int i = 0; i < oneTimes.get(to).size() && told == 255; i++) {
            OneTime o = oneTimes.get(to).get(i);
            if (o.onOffer) {
                o.onOffer = false;
                told = i;
                agreements = row(agreements, x25519(e, shown(o.secret)));
            }
        }
        Side side = new Side();
        side.me = from;
        side.other = to;
        side.tie = row(shown(identity(from)), shown(identity(to)));
        side.root = spread(key(0), row(key(255), agreements), 'X')[0];
        side.theirs = theirPrekey;
        side.tail = row(from, told, shown(e));
        turn(side);
        sides.add(side);
        return sides.size() - 1;
    }

    private void turn(Side side) {
        side.secret = secret(made++);
        side.before = side.sent;
        side.sent = 0;
        byte[][] two = spread(side.root, x25519(side.secret, side.theirs), 'R');
        side.root = two[0];
        side.sending = two[1];
        side.mustTurn = false;
    }

    private static byte[] xored(byte[] eight, byte[] letterKey, byte[] header) {
        byte[] cover = hmac(spread(key(0), letterKey, 'M')[0], header);
        byte[] out = new byte[8];
        for (int i = 0; i < 8; i++) {
            out[i] = (byte) (eight[i] ^ cover[i]);
        }
        return out;
    }

    private static byte[] mark(byte[] letterKey, byte[] tie, byte[] header, byte[] sealed) {
        return Arrays.copyOf(hmac(spread(key(0), letterKey, 'M')[1], row(tie, header, sealed)), 8);
    }

    public int send(int end, long text) {
        index(end, sides.size());
        room(letters.size(), 48);
        Side s = sides.get(end);
        byte[] header = row(shown(s.secret), s.before, s.sent);
        byte[] letterKey = hmac(s.sending, row(1));
        s.sending = hmac(s.sending, row(2));
        s.sent++;
        byte[] sealed = xored(lowFirst(text, 8), letterKey, header);
        byte[] letter = row(header, sealed, mark(letterKey, s.tie, header, sealed));
        letters.add(s.tail != null && !s.opened ? row(letter, s.tail) : letter);
        return letters.size() - 1;
    }

    public int forge(int letter, int at, int value) {
        index(letter, letters.size());
        index(at, letters.get(letter).length);
        if (value < 0 || value > 255) {
            throw new IllegalArgumentException();
        }
        room(letters.size(), 48);
        byte[] copy = letters.get(letter).clone();
        copy[at] = (byte) value;
        letters.add(copy);
        return letters.size() - 1;
    }

    /** Tries a letter on a copy of a side: what the side would be then, with what comes out. */
    private static int tryOn(Side s, byte[] letter) {
        byte[] k = Arrays.copyOf(letter, 32);
        byte[] header = Arrays.copyOf(letter, 34);
        byte[] sealed = Arrays.copyOfRange(letter, 34, 42);
        int b = letter[32] & 255, n = letter[33] & 255;
        byte[] letterKey = null;
        for (Kept kept : s.kept) {
            if (letterKey == null && Arrays.equals(kept.ratchet, k) && kept.number == n) {
                letterKey = kept.key;
            }
        }
        if (letterKey != null) {
            byte[] found = letterKey;
            s.kept.removeIf(kept -> kept.key == found);
        } else {
            boolean goesOn = s.receiving != null && Arrays.equals(k, s.theirs);
            if (goesOn && n < s.come) {
                return OLD;
            }
            if (!goesOn) {
                if (s.receiving != null) {
                    skip(s, b);
                }
                s.theirs = k;
                byte[][] two = spread(s.root, x25519(s.secret, k), 'R');
                s.root = two[0];
                s.receiving = two[1];
                s.come = 0;
                s.mustTurn = true;
            }
            skip(s, n);
            letterKey = hmac(s.receiving, row(1));
            s.receiving = hmac(s.receiving, row(2));
            s.come++;
            if (s.kept.size() > 6) {
                return FAR;
            }
        }
        s.dueMark = mark(letterKey, s.tie, header, sealed);
        if (!Arrays.equals(s.dueMark, Arrays.copyOfRange(letter, 42, 50))) {
            return WRONG;
        }
        s.text = eight(xored(sealed, letterKey, header), 0);
        s.opened = true;
        return OPENED;
    }

    private static void skip(Side s, int upTo) {
        while (s.come < upTo) {
            s.kept.add(new Kept(s.theirs, s.come, hmac(s.receiving, row(1))));
            s.receiving = hmac(s.receiving, row(2));
            s.come++;
        }
    }

    private boolean canAnswer(int person, byte[] bytes) {
        if (bytes.length != 84) {
            return false;
        }
        int who = bytes[50] & 255, told = bytes[51] & 255;
        List<OneTime> own = oneTimes.get(person);
        return who <= 3 && who != person && (told == 255 || told < own.size() && !own.get(told).used);
    }

    private Side newSide(int person, byte[] bytes) {
        int who = bytes[50] & 255, told = bytes[51] & 255;
        byte[] e = Arrays.copyOfRange(bytes, 52, 84);
        byte[] agreements = row(x25519(prekey(person), shown(identity(who))), x25519(identity(person), e),
            x25519(prekey(person), e),
            told == 255 ? new byte[0] : x25519(oneTimes.get(person).get(told).secret, e));
        Side side = new Side();
        side.me = person;
        side.other = who;
        side.tie = row(shown(identity(who)), shown(identity(person)));
        side.root = spread(key(0), row(key(255), agreements), 'X')[0];
        side.secret = prekey(person);
        return side;
    }

    /** The mark with which an end would open a letter, for letters that are made up by who knows the seed. */
    byte[] markAt(int end, int letter) {
        Side trial = sides.get(end).copy();
        tryOn(trial, letters.get(letter));
        return trial.dueMark;
    }

    /** The mark with which a person would answer it. */
    byte[] markFor(int person, int letter) {
        Side trial = newSide(person, letters.get(letter));
        tryOn(trial, letters.get(letter));
        return trial.dueMark;
    }

    public int answer(int person, int letter) {
        index(person, 4);
        index(letter, letters.size());
        room(sides.size(), 8);
        byte[] bytes = letters.get(letter);
        if (!canAnswer(person, bytes)) {
            return WRONG;
        }
        Side side = newSide(person, bytes);
        int outcome = tryOn(side, bytes);
        if (outcome != OPENED) {
            return outcome;
        }
        int told = bytes[51] & 255;
        if (told != 255) {
            OneTime o = oneTimes.get(person).get(told);
            o.used = true;
            o.onOffer = false;
        }
        turn(side);
        sides.add(side);
        return sides.size() - 1;
    }

    public int open(int end, int letter) {
        index(end, sides.size());
        index(letter, letters.size());
        Side trial = sides.get(end).copy();
        int outcome = tryOn(trial, letters.get(letter));
        if (outcome == OPENED) {
            if (trial.mustTurn) {
                turn(trial);
            }
            sides.set(end, trial);
        }
        return outcome;
    }

    public long text(int end) {
        index(end, sides.size());
        return sides.get(end).text;
    }

    public int ends() {
        return sides.size();
    }

    public int person(int end, boolean other) {
        index(end, sides.size());
        return other ? sides.get(end).other : sides.get(end).me;
    }

    public int letters() {
        return letters.size();
    }

    public int length(int letter) {
        index(letter, letters.size());
        return letters.get(letter).length;
    }

    public int wire(int letter, int at) {
        index(letter, letters.size());
        index(at, letters.get(letter).length);
        return letters.get(letter)[at] & 255;
    }

    public int count(int end, int what) {
        index(end, sides.size());
        Side s = sides.get(end);
        Map<Integer, Integer> counts = new TreeMap<>(Map.of(0, s.sent, 1, s.come, 2, s.before, 3, s.kept.size()));
        return counts.getOrDefault(what, NONE);
    }

    public boolean keeps(int end, int letter) {
        index(end, sides.size());
        index(letter, letters.size());
        byte[] bytes = letters.get(letter);
        return sides.get(end).kept.stream().anyMatch(
            kept -> Arrays.equals(kept.ratchet, Arrays.copyOf(bytes, 32)) && kept.number == (bytes[33] & 255));
    }

    public long word(int end, int what, int part) {
        index(end, sides.size());
        index(part, 4);
        Side s = sides.get(end);
        byte[][] rows = {s.root, s.sending, s.receiving, shown(s.secret), s.theirs};
        return what < 0 || what > 4 || rows[what] == null ? 0 : eight(rows[what], 8 * part);
    }
}
