import java.math.BigInteger;
import java.util.HexFormat;
import java.util.Random;

/** Keys of 32 bytes, in hex as they stand, on their way to the desk and back. */
final class Keys {
    private Keys() { }

    static String hex(byte[] bytes) {
        return HexFormat.of().formatHex(bytes);
    }

    static String hex(BigInteger number) {
        return hex(Model.keyOf(number));
    }

    static byte[] bytes(String hex) {
        return HexFormat.of().parseHex(hex);
    }

    /** A key with this byte 32 times. */
    static String every(int b) {
        return String.format("%02x", b).repeat(32);
    }

    static void put(Both both, int k, String hex) {
        for (int part = 0; part < 4; part++) {
            long highFirst = Long.parseUnsignedLong(hex.substring(16 * part, 16 * part + 16), 16);
            both.due("nothing", "put", k, part, Long.reverseBytes(highFirst));
        }
    }

    static String get(Both both, int k) {
        StringBuilder hex = new StringBuilder();
        for (int part = 0; part < 4; part++) {
            hex.append(String.format("%016x", Long.reverseBytes(Long.parseLong(both.call("get", k, part)))));
        }
        return hex.toString();
    }

    static void putRandom(Both both, Random random) {
        for (int k = 0; k < 4; k++) {
            for (int part = 0; part < 4; part++) {
                both.due("nothing", "put", k, part, random.nextLong());
            }
        }
    }

    static void getAll(Both both) {
        for (int k = 0; k < 4; k++) {
            get(both, k);
        }
    }
}
