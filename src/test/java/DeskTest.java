import java.util.Random;

/** Promises 1 to 6: a new object, and the four keys on the desk. */
public final class DeskTest {
    private static final int[] NO_INDEX = {-1, 4, 5, 255, Integer.MIN_VALUE, Integer.MAX_VALUE};

    public static void main(String[] args) {
        newObject();
        putAndGet();
        wrongKeysAndParts();
        agreeByPublishedVectors();
        agreeManyTimes();
        agreeAtTheEdges();
        agreeIntoItsOwnKeys();
        macs();
        digests();
        digestByPublishedVectors();
        Both.end();
    }

    private static void newObject() {
        for (int seed : new int[] {0, 1, -1, Integer.MIN_VALUE, Integer.MAX_VALUE, 0x01020384}) {
            Both both = new Both("new object " + seed, seed);
            for (int k = 0; k < 4; k++) {
                for (int part = 0; part < 4; part++) {
                    both.due(0, "get", k, part);
                }
                both.due(0, "offers", k);
            }
            both.due(0, "ends");
            both.due(0, "letters");
            // Identities show in the tie, and so in marks; prekeys as the other's ratchet key.
            for (int person = 0; person < 4; person++) {
                both.due(person, "begin", person, (person + 1) % 4);
                both.call("word", person, 0, 0);
                both.call("word", person, 4, 0);
                both.due(person, "send", person, 7L);
                for (int at = 42; at < 50; at++) {
                    both.call("wire", person, at);
                }
            }
        }
    }

    private static void putAndGet() {
        Both both = new Both("put", 1);
        for (int k = 0; k < 4; k++) {
            for (int part = 0; part < 4; part++) {
                both.due("nothing", "put", k, part, 0x8001fe7f00000000L + 16 * k + part);
            }
        }
        both.due("nothing", "put", 2, 1, -1L);
        both.due("nothing", "put", 1, 3, Long.MIN_VALUE);
        for (int k = 0; k < 4; k++) {
            for (int part = 0; part < 4; part++) {
                long want = k == 2 && part == 1 ? -1L
                    : k == 1 && part == 3 ? Long.MIN_VALUE : 0x8001fe7f00000000L + 16 * k + part;
                both.due(want, "get", k, part);
            }
        }
        // The bytes' order shows in a digest: 'abc' are the lowest three of the first part.
        both.call("put", 0, 0, 0x636261L);
        both.call("digest", 3, 3);
        Both.hold("abc", Keys.get(both, 3), "ba7816bf8f01cfea414140de5dae2223b00361a396177a9cb410ff61f20015ad");
    }

    private static void wrongKeysAndParts() {
        for (int bad : NO_INDEX) {
            Both both = new Both("wrong desk index " + bad, 5);
            Keys.putRandom(both, new Random(bad));
            both.due(Both.INDEX, "put", bad, 0, 1L);
            both.due(Both.INDEX, "put", 0, bad, 1L);
            both.due(Both.INDEX, "get", bad, 0);
            both.due(Both.INDEX, "get", 0, bad);
            both.due(Both.INDEX, "agree", bad, 0, 1);
            both.due(Both.INDEX, "agree", 0, bad, 1);
            both.due(Both.INDEX, "agree", 0, 1, bad);
            both.due(Both.INDEX, "mac", bad, 0, 1);
            both.due(Both.INDEX, "mac", 0, bad, 1);
            both.due(Both.INDEX, "mac", 0, 1, bad);
            both.due(Both.INDEX, "digest", 1, bad);
            Keys.getAll(both);
        }
        Both both = new Both("wrong n", 5);
        Keys.putRandom(both, new Random(0));
        for (int n : new int[] {-1, 129, 130, 255, 256, Integer.MIN_VALUE, Integer.MAX_VALUE}) {
            both.due(Both.INDEX, "digest", n, 0);
        }
        Keys.getAll(both);
    }

    private static void agreeByPublishedVectors() {
        // RFC 7748, 5.2.
        String[][] vectors = {
            {"a546e36bf0527c9d3b16154b82465edd62144c0ac1fc5a18506a2244ba449ac4",
             "e6db6867583030db3594c1a424b15f7c726624ec26b3353b10a903a6d0ab1c4c",
             "c3da55379de9c6908e94ea4df28d084f32eccf03491c71f754b4075577a28552"},
            {"4b66e9d4d1b4673c5ad22691957d6af5c11b6421e0ea01d42ca4169e7918ba0d",
             "e5210f12786811d3f4b7959d0538ae2c31dbe7106fc03c3efc4cd549c715a493",
             "95cbde9476e8907d7aade45cb4b873f88b595a68799fa152e6f8f7647aac7957"}};
        for (String[] vector : vectors) {
            Both both = new Both("RFC 7748", 0);
            Keys.put(both, 0, vector[0]);
            Keys.put(both, 1, vector[1]);
            both.due("nothing", "agree", 0, 1, 2);
            Both.hold("RFC 7748", Keys.get(both, 2), vector[2]);
            Both.hold("k is as it was", Keys.get(both, 0), vector[0]);
            Both.hold("u is as it was", Keys.get(both, 1), vector[1]);
            Both.hold("the fourth key is as it was", Keys.get(both, 3), "00".repeat(32));
        }
    }

    private static void agreeManyTimes() {
        // RFC 7748, 5.2: k becomes AGREE(k, u), u the former k; here with three keys by turns.
        String k = "09" + "00".repeat(31), u = k;
        for (int i = 1; i <= 1000; i++) {
            RatchetDesk desk = new RatchetDesk(i);
            for (int part = 0; part < 4; part++) {
                desk.put(0, part, Long.reverseBytes(Long.parseUnsignedLong(k.substring(16 * part, 16 * part + 16), 16)));
                desk.put(1, part, Long.reverseBytes(Long.parseUnsignedLong(u.substring(16 * part, 16 * part + 16), 16)));
            }
            desk.agree(0, 1, 2);
            StringBuilder hex = new StringBuilder();
            for (int part = 0; part < 4; part++) {
                hex.append(String.format("%016x", Long.reverseBytes(desk.get(2, part))));
            }
            u = k;
            k = hex.toString();
            if (i == 1) {
                Both.hold("once", k, "422c8e7a6227d7bca1350b3e2bb7279f7897b87bb6854b783c60e80311ae3079");
            }
        }
        Both.hold("1000 times", k, "684cf59ba83309552800ef566f2f4d3c1c3887c49360e3875f2eb94d99532c51");
    }

    private static void agreeAtTheEdges() {
        String end = "ff".repeat(30) + "7f";
        // 0, 1, the numbers round p and up to 2^255 - 1, each also with bit 255, and points of low order.
        String[] points = {"00" + "00".repeat(31), "01" + "00".repeat(31), "09" + "00".repeat(31),
            "eb" + end, "ec" + end, "ed" + end, "ee" + end, "ef" + end, "f6" + end, "fe" + end, "ff" + end,
            "00".repeat(31) + "80", "09" + "00".repeat(30) + "80", "ed" + "ff".repeat(31), "ff".repeat(32),
            "e0eb7a7c3b41b8ae1656e3faf19fc46ada098deb9c32b1fd866205165f49b800",
            "5f9c95bca3508c24b1d0b1559c83ef5b04445cc4581c8e86d8224eddd09f1157"};
        // Secrets whose bits 0, 1, 2, 254 and 255 are as they are not counted.
        String[] secrets = {"00".repeat(32), "ff".repeat(32), "07" + "00".repeat(30) + "c0",
            "f8" + "ff".repeat(30) + "3f", "00".repeat(31) + "40", "01" + "00".repeat(31)};
        for (String secret : secrets) {
            Both both = new Both("agree at the edges", 3);
            Keys.put(both, 0, secret);
            for (String point : points) {
                Keys.put(both, 1, point);
                both.due("nothing", "agree", 0, 1, 2);
                Keys.get(both, 2);
            }
        }
        Random random = new Random(25519);
        for (int i = 0; i < 40; i++) {
            Both both = new Both("agree at random", i);
            Keys.putRandom(both, random);
            both.due("nothing", "agree", i & 3, i >> 2 & 3, i / 16 & 3);
            Keys.getAll(both);
        }
    }

    private static void agreeIntoItsOwnKeys() {
        int[][] places = {{0, 1, 0}, {0, 1, 1}, {2, 2, 2}, {3, 3, 0}};
        for (int[] at : places) {
            Both both = new Both("agree into its own key", 0);
            Keys.putRandom(both, new Random(at[2]));
            both.due("nothing", "agree", at[0], at[1], at[2]);
            Keys.getAll(both);
        }
    }

    private static void macs() {
        Random random = new Random(5);
        for (int k = 0; k < 4; k++) {
            for (int m = 0; m < 4; m++) {
                for (int into = 0; into < 4; into++) {
                    Both both = new Both("mac", k);
                    Keys.putRandom(both, random);
                    both.due("nothing", "mac", k, m, into);
                    Keys.getAll(both);
                }
            }
        }
        Both both = new Both("mac of a key and a row of 0", 0);
        both.due("nothing", "mac", 0, 1, 2);
        Both.hold("mac of 0", Keys.get(both, 2), Keys.hex(Model.hmac(new byte[32], new byte[32])));
    }

    private static void digests() {
        Random random = new Random(6);
        for (int n = 0; n <= 128; n++) {
            for (int into = n & 1; into < 4; into += 2) {
                Both both = new Both("digest of " + n, n);
                Keys.putRandom(both, random);
                both.due("nothing", "digest", n, into);
                Keys.getAll(both);
            }
        }
    }

    private static void digestByPublishedVectors() {
        Both both = new Both("digest", 0);
        both.due("nothing", "digest", 0, 3);
        Both.hold("of nothing", Keys.get(both, 3), "e3b0c44298fc1c149afbf4c8996fb92427ae41e4649b934ca495991b7852b855");
        String text = "abcdbcdecdefdefgefghfghighijhijkijkljklmklmnlmnomnopnopq";
        byte[] bytes = text.getBytes(java.nio.charset.StandardCharsets.ISO_8859_1);
        Keys.put(both, 0, Keys.hex(bytes).substring(0, 64));
        Keys.put(both, 1, Keys.hex(bytes).substring(64) + "00".repeat(8));
        both.due("nothing", "digest", 56, 2);
        Both.hold("FIPS 180", Keys.get(both, 2), "248d6a61d20638b8e5c026930c3e6039a33ce45964ff2167f6ecedd419db06c1");
    }
}
