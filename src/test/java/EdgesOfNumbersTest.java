import java.math.BigInteger;
import java.util.ArrayList;
import java.util.Arrays;
import java.util.HashSet;
import java.util.List;
import java.util.Random;
import java.util.Set;

/**
 * The edges in the document's terms of numbers and in promises 1 to 6: each run bears the
 * sentence that it holds. What is refused there stands in EdgesOfRefusalsTest.
 */
public final class EdgesOfNumbersTest {
    private static final BigInteger TOP = BigInteger.TWO.pow(255);
    // How many points the curve's great subgroup has, and the one of its twist.
    private static final BigInteger ORDER =
        BigInteger.TWO.pow(252).add(new BigInteger("27742317777372353535851937790883648493"));
    private static final BigInteger TWIST_ORDER =
        BigInteger.TWO.pow(253).subtract(new BigInteger("55484635554744707071703875581767296995"));
    private static final String SECRET = "77076d0a7318a57d3c16c17251b26645df4c2f92ebc099fba47c5b2c3f9a0e1d";
    private static final String POINT = "de9edb7d7b7dc1b4d35b61c2ece435373f8343c85b78674dadfc7e146f882b4f";

    public static void main(String[] args) {
        newObjects();
        newObjectBesideAUsedOne();
        seeds();
        putsAtTheEnds();
        putsEveryByte();
        digestOfNothing();
        digestLengths();
        digestLeavesOutTheRest();
        digestSumsWrap();
        digestIntoWhatItIsOf();
        macsAtTheEdges();
        macIntoWhatItIsOf();
        agreeBitsThatCountAsZero();
        agreeBit254();
        agreeBitsThatCount();
        agreePointsBeyondP();
        agreePointsOfLowOrder();
        agreeNearZeroAndNearP();
        agreeWithFullAndEmptyBytes();
        agreeIntoWhatItIsOf();
        Both.end();
    }

    private static String agree(String secret, String point) {
        Both both = new Both("agree " + secret + " " + point, 1);
        return agreeOn(both, secret, point);
    }

    private static String agreeOn(Both both, String secret, String point) {
        Keys.put(both, 0, secret);
        Keys.put(both, 1, point);
        both.due("nothing", "agree", 0, 1, 2);
        return Keys.get(both, 2);
    }

    private static String flipped(String hex, int bit) {
        byte[] bytes = Keys.bytes(hex);
        bytes[bit >> 3] ^= 1 << (bit & 7);
        return Keys.hex(bytes);
    }

    private static String sha(byte[] row) {
        return Keys.hex(Model.sha(row));
    }

    private static void newObjects() {
        for (int seed : new int[] {0, 1, -1, Integer.MIN_VALUE, Integer.MAX_VALUE}) {
            Both both = new Both("nothing else; four keys on the desk, all 0", seed);
            for (int k = 0; k < 4; k++) {
                Both.hold("key " + k, Keys.get(both, k), Keys.every(0));
                both.due(0, "offers", k);
            }
            both.due(0, "ends");
            both.due(0, "letters");
        }
    }

    private static void newObjectBesideAUsedOne() {
        Both used = new Both("a new object: the one before", 5);
        Keys.putRandom(used, new Random(1));
        used.due(0, "stock", 1);
        used.due(0, "begin", 0, 1);
        used.due(0, "send", 0, 9L);
        Both both = new Both("nothing else, beside an object that was used", 5);
        for (int k = 0; k < 4; k++) {
            Both.hold("key " + k, Keys.get(both, k), Keys.every(0));
            both.due(0, "offers", k);
        }
        both.due(0, "ends");
        both.due(0, "letters");
        both.due(Both.INDEX, "length", 0);
        both.due(Both.INDEX, "count", 0, 0);
        both.due(0, "begin", 0, 1);
        both.due(0, "send", 0, 9L);
        both.due(255, "wire", 0, 51);
        // And the other way: what is done here is not seen there.
        used.due(1, "ends");
        used.due(0, "wire", 0, 51);
        used.look(0);
        both.look(0);
    }

    private static void seeds() {
        Set<String> seen = new HashSet<>();
        int[] seeds = {0, 1, 0x80, 0x100, 0x8000, 0x10000, 0x800000, 0x1000000, Integer.MAX_VALUE,
            Integer.MIN_VALUE, -1, -2, 0x7f};
        for (int seed : seeds) {
            Both both = new Both("the seed's four bytes and those of j, the lowest first", seed);
            for (int person = 0; person < 4; person++) {
                both.due(person, "begin", (person + 1) % 4, person);
                byte[] row = {(byte) seed, (byte) (seed >> 8), (byte) (seed >> 16), (byte) (seed >> 24),
                    (byte) (4 + person), 0, 0, 0};
                byte[] nine = new byte[32];
                nine[0] = 9;
                byte[] shown = Model.x25519(Model.sha(row), nine);
                String word = "";
                for (int part = 0; part < 4; part++) {
                    word += String.format("%016x", Long.reverseBytes(Long.parseLong(both.call("word", person, 4, part))));
                }
                Both.hold("prekey " + person + " of seed " + seed, word, Keys.hex(shown));
                seen.add(word);
            }
        }
        Both.hold("each seed has prekeys of its own", "" + seen.size(), "" + 4 * seeds.length);
    }

    private static void putsAtTheEnds() {
        long[] values = {0L, 1L, -1L, 255L, 256L, Long.MIN_VALUE, Long.MAX_VALUE, 0x8000000080000000L, 0xffffffffL,
            0x0102030405060708L};
        for (int k = 0; k < 4; k++) {
            for (int part = 0; part < 4; part++) {
                Both both = new Both("the bytes 8 * part .. 8 * part + 7 of key k become those of v", 1);
                for (int i = 0; i < 4; i++) {
                    Keys.put(both, i, Keys.every(0x5a));
                }
                for (long v : values) {
                    both.due("nothing", "put", k, part, v);
                    both.due(v, "get", k, part);
                }
                // The lowest byte first; all others are as they were.
                String want = Keys.every(0x5a).substring(16 * part + 16);
                want = Keys.every(0x5a).substring(0, 16 * part) + "0807060504030201" + want;
                for (int i = 0; i < 4; i++) {
                    Both.hold("key " + i + " behind put " + k + ", " + part, Keys.get(both, i),
                        i == k ? want : Keys.every(0x5a));
                }
            }
        }
    }

    private static void putsEveryByte() {
        Both both = new Both("bytes are 0 .. 255", 1);
        for (int b = 0; b < 256; b++) {
            long v = 0x0101010101010101L * b;
            both.due("nothing", "put", 3, 3, v);
            both.due(v, "get", 3, 3);
        }
    }

    private static void digestOfNothing() {
        for (int into = 0; into < 4; into++) {
            Both both = new Both("the first n bytes, n = 0", 1);
            Keys.putRandom(both, new Random(into));
            both.due("nothing", "digest", 0, into);
            Both.hold("digest of nothing", Keys.get(both, into),
                "e3b0c44298fc1c149afbf4c8996fb92427ae41e4649b934ca495991b7852b855");
        }
    }

    private static byte[] onTheDesk(Both both, int seed) {
        byte[] row = new byte[128];
        new Random(seed).nextBytes(row);
        for (int k = 0; k < 4; k++) {
            Keys.put(both, k, Keys.hex(Arrays.copyOfRange(row, 32 * k, 32 * k + 32)));
        }
        return row;
    }

    private static void digestLengths() {
        // One key's end, and where a length behind the row still has room in its 64 bytes or has not.
        for (int n : new int[] {1, 2, 31, 32, 33, 54, 55, 56, 57, 62, 63, 64, 65, 95, 96, 97, 118, 119, 120, 121, 126,
            127, 128}) {
            Both both = new Both("as few bytes 0 as bring it to 56 bytes above a multiple of 64, n = " + n, 1);
            byte[] row = onTheDesk(both, n);
            both.due("nothing", "digest", n, 3);
            Both.hold("digest of " + n, Keys.get(both, 3), sha(Arrays.copyOf(row, n)));
        }
    }

    private static void digestLeavesOutTheRest() {
        for (int n : new int[] {0, 1, 31, 32, 63, 64, 96, 127}) {
            Both both = new Both("the first n bytes and no other, n = " + n, 1);
            byte[] row = onTheDesk(both, n);
            String want = sha(Arrays.copyOf(row, n));
            row[n] ^= (byte) 128;
            Keys.put(both, n / 32, Keys.hex(Arrays.copyOfRange(row, n / 32 * 32, n / 32 * 32 + 32)));
            both.due("nothing", "digest", n, n / 32 == 0 ? 1 : 0);
            Both.hold("byte n is left out", Keys.get(both, n / 32 == 0 ? 1 : 0), want);
        }
    }

    private static void digestSumsWrap() {
        // Bytes of 255 bring nearly every sum over 2^32; those of 128 carry the highest bits alone.
        for (int b : new int[] {255, 128, 127, 1, 0}) {
            for (int n : new int[] {64, 128}) {
                Both both = new Both("sums of words wrap, bytes " + b, 1);
                for (int k = 0; k < 4; k++) {
                    Keys.put(both, k, Keys.every(b));
                }
                byte[] row = new byte[n];
                Arrays.fill(row, (byte) b);
                both.due("nothing", "digest", n, 0);
                Both.hold("digest of " + n + " bytes " + b, Keys.get(both, 0), sha(row));
            }
        }
    }

    private static void digestIntoWhatItIsOf() {
        for (int into = 0; into < 4; into++) {
            Both both = new Both("key into becomes the digest of the keys as they are", 1);
            byte[] row = onTheDesk(both, into);
            both.due("nothing", "digest", 128, into);
            for (int k = 0; k < 4; k++) {
                Both.hold("key " + k + " behind digest into " + into, Keys.get(both, k),
                    k == into ? sha(row) : Keys.hex(Arrays.copyOfRange(row, 32 * k, 32 * k + 32)));
            }
            // And of what it is now, once more.
            System.arraycopy(Model.sha(row), 0, row, 32 * into, 32);
            both.due("nothing", "digest", 128, into);
            Both.hold("once more", Keys.get(both, into), sha(row));
        }
    }

    private static void macsAtTheEdges() {
        // 92 and 54 are those with which a key's bytes are changed: a key of them becomes 0.
        int[] bytes = {0, 1, 54, 92, 127, 128, 255};
        for (int k : bytes) {
            Both both = new Both("each ^ 92 and ^ 54, key of " + k, 1);
            Keys.put(both, 0, Keys.every(k));
            for (int m : bytes) {
                Keys.put(both, 1, Keys.every(m));
                both.due("nothing", "mac", 0, 1, 2);
                Both.hold("mac of " + k + " and " + m, Keys.get(both, 2),
                    Keys.hex(Model.hmac(Keys.bytes(Keys.every(k)), Keys.bytes(Keys.every(m)))));
                Both.hold("k is as it was", Keys.get(both, 0), Keys.every(k));
                Both.hold("m is as it was", Keys.get(both, 1), Keys.every(m));
            }
        }
    }

    private static void macIntoWhatItIsOf() {
        for (int[] at : new int[][] {{0, 1, 0}, {0, 1, 1}, {2, 2, 2}, {3, 3, 0}, {0, 0, 3}, {3, 0, 3}}) {
            Both both = new Both("key into becomes the mac, " + Arrays.toString(at), 1);
            byte[] row = onTheDesk(both, at[2]);
            byte[] k = Arrays.copyOfRange(row, 32 * at[0], 32 * at[0] + 32);
            byte[] m = Arrays.copyOfRange(row, 32 * at[1], 32 * at[1] + 32);
            both.due("nothing", "mac", at[0], at[1], at[2]);
            System.arraycopy(Model.hmac(k, m), 0, row, 32 * at[2], 32);
            for (int i = 0; i < 4; i++) {
                Both.hold("key " + i, Keys.get(both, i), Keys.hex(Arrays.copyOfRange(row, 32 * i, 32 * i + 32)));
            }
        }
    }

    private static void agreeBitsThatCountAsZero() {
        for (String secret : new String[] {SECRET, Keys.every(0), Keys.every(255), flipped(SECRET, 255)}) {
            String want = agree(secret, POINT);
            for (int bit : new int[] {0, 1, 2, 255}) {
                Both.hold("in k the bits 0, 1, 2 and 255 count as 0: " + bit, agree(flipped(secret, bit), POINT), want);
            }
        }
        for (String point : new String[] {POINT, Keys.every(0), Keys.every(255), "09" + "00".repeat(31)}) {
            Both.hold("in u bit 255 counts as 0", agree(SECRET, flipped(point, 255)), agree(SECRET, point));
        }
    }

    private static void agreeBit254() {
        for (String secret : new String[] {SECRET, Keys.every(0), Keys.every(255)}) {
            Both.hold("in k bit 254 counts as 1", agree(flipped(secret, 254), POINT), agree(secret, POINT));
        }
    }

    private static void agreeBitsThatCount() {
        String want = agree(SECRET, POINT);
        for (int bit : new int[] {3, 4, 7, 8, 252, 253}) {
            Both.hold("bit " + bit + " of k counts", "" + agree(flipped(SECRET, bit), POINT).equals(want), "false");
        }
        for (int bit : new int[] {0, 1, 2, 7, 8, 253, 254}) {
            Both.hold("bit " + bit + " of u counts", "" + agree(SECRET, flipped(POINT, bit)).equals(want), "false");
        }
    }

    private static void agreePointsBeyondP() {
        // From p to 2^255 - 1 there are 19 numbers: they count as 0 .. 18.
        for (int i = 0; i < 19; i++) {
            BigInteger small = BigInteger.valueOf(i), beyond = Model.P.add(small);
            String want = agree(SECRET, Keys.hex(small));
            Both.hold("is reckoned mod p: p + " + i, agree(SECRET, Keys.hex(beyond)), want);
            Both.hold("and with bit 255: p + " + i, agree(SECRET, Keys.hex(beyond.add(TOP))), want);
        }
        Both.hold("the greatest of all is 18", Keys.hex(Model.P.add(BigInteger.valueOf(18))), "ff".repeat(31) + "7f");
    }

    private static void agreePointsOfLowOrder() {
        // From each of these every agreement comes to b = 0 in the end: the answer is 0, as 0^(p - 2) is.
        BigInteger[] points = {BigInteger.ZERO, BigInteger.ONE, Model.P.subtract(BigInteger.ONE), Model.P,
            Model.P.add(BigInteger.ONE),
            new BigInteger("325606250916557431795983626356110631294008115727848805560023387167927233504"),
            new BigInteger("39382357235489614581723060781553021112529911719440698176882885853963445705823")};
        for (BigInteger point : points) {
            for (String secret : new String[] {SECRET, Keys.every(0), Keys.every(255)}) {
                Both.hold("a * b^(p - 2) with b = 0, from " + point, agree(secret, Keys.hex(point)), Keys.every(0));
                Both.hold("the same with bit 255", agree(secret, Keys.hex(point.add(TOP))), Keys.every(0));
            }
        }
        Both.hold("near them it is not 0", "" + agree(SECRET, "02" + "00".repeat(31)).equals(Keys.every(0)), "false");
    }

    private static void agreeNearZeroAndNearP() {
        BigInteger scalar = Model.scalar(Keys.bytes(SECRET));
        List<Integer> found = new ArrayList<>();
        for (int i = -19; i < 40; i++) {
            BigInteger due = BigInteger.valueOf(i).mod(Model.P);
            for (BigInteger order : new BigInteger[] {ORDER, TWIST_ORDER}) {
                boolean reached = i != 0 && Model.ladder(order.add(BigInteger.ONE), due).equals(due);
                if (reached) {
                    // The point from which the secret leads to the number that is due.
                    BigInteger point = Model.ladder(scalar.modInverse(order), due);
                    Both.hold("from 0 to p - 1: " + i, agree(SECRET, Keys.hex(point)), Keys.hex(due));
                    found.add(i);
                }
            }
        }
        // Those below 19 are told from p + 2, p + 9 and p + 16, which a key has room for too.
        Both.hold("such numbers", found.toString(), "[-18, -16, -10, -8, 2, 9, 16, 21, 31, 34, 35]");
    }

    private static void agreeWithFullAndEmptyBytes() {
        String[] rows = {"00ff".repeat(16), "ff00".repeat(16), "0000ffff".repeat(8), "ffff0000".repeat(8),
            "ffffff01".repeat(8), "000000fe".repeat(8), "aa".repeat(32), "55".repeat(32), "ff".repeat(32),
            "00".repeat(31) + "01", "00".repeat(31) + "7f", "ff".repeat(31) + "00"};
        for (String secret : rows) {
            Both both = new Both("agree with full and empty bytes", 1);
            for (String point : rows) {
                Both.hold("agree " + secret + " " + point, agreeOn(both, secret, point),
                    Keys.hex(Model.x25519(Keys.bytes(secret), Keys.bytes(point))));
            }
        }
    }

    private static void agreeIntoWhatItIsOf() {
        for (int[] at : new int[][] {{0, 1, 0}, {0, 1, 1}, {2, 2, 2}, {3, 3, 0}, {1, 3, 3}, {3, 1, 3}}) {
            Both both = new Both("key into becomes AGREE, " + Arrays.toString(at), 1);
            byte[] row = onTheDesk(both, 9 + at[2]);
            byte[] k = Arrays.copyOfRange(row, 32 * at[0], 32 * at[0] + 32);
            byte[] u = Arrays.copyOfRange(row, 32 * at[1], 32 * at[1] + 32);
            both.due("nothing", "agree", at[0], at[1], at[2]);
            System.arraycopy(Model.x25519(k, u), 0, row, 32 * at[2], 32);
            for (int i = 0; i < 4; i++) {
                Both.hold("key " + i, Keys.get(both, i), Keys.hex(Arrays.copyOfRange(row, 32 * i, 32 * i + 32)));
            }
        }
    }
}
