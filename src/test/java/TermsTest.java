import java.io.ByteArrayOutputStream;
import java.math.BigInteger;
import java.nio.ByteBuffer;
import java.nio.ByteOrder;
import java.security.GeneralSecurityException;
import java.security.KeyFactory;
import java.security.PrivateKey;
import java.security.PublicKey;
import java.security.spec.NamedParameterSpec;
import java.security.spec.XECPrivateKeySpec;
import java.security.spec.XECPublicKeySpec;
import java.util.Arrays;
import java.util.Random;
import javax.crypto.KeyAgreement;

/**
 * The formulas of the document's terms, from MAC to TO ANSWER, without the model: each is written
 * out here in the document's words, by the SHA-256, HMAC and X25519 of the Java library, and held
 * against what a desk shows. Person 0 begins with person 1 throughout.
 */
public final class TermsTest {
    private static final int SEED = -559038737;
    private static final byte[] ZERO = new byte[32], FULL = Keys.bytes(Keys.every(255)), NINE = low(9, 32);
    private static final long TEXT = 0x8877665544332211L, REPLY = 0x0102030405060708L;

    public static void main(String[] args) throws GeneralSecurityException {
        macByTwoDigests();
        agreeByTheLibrary();
        publicIsAgreeWithNine();
        for (boolean oneTime : new boolean[] {false, true}) {
            beginning(oneTime);
            firstLetters(oneTime);
            answering(oneTime);
            openingAndTurning(oneTime);
        }
        keptKeysAreOfTheChain();
        Both.end();
    }

    private static byte[] row(byte[]... parts) {
        ByteArrayOutputStream out = new ByteArrayOutputStream();
        for (byte[] part : parts) {
            out.writeBytes(part);
        }
        return out.toByteArray();
    }

    /** The lowest byte first. */
    private static byte[] low(long v, int n) {
        return Arrays.copyOf(ByteBuffer.allocate(8).order(ByteOrder.LITTLE_ENDIAN).putLong(v).array(), n);
    }

    private static byte[] one(int b) {
        return new byte[] {(byte) b};
    }

    private static byte[] mac(byte[] k, byte[]... m) {
        return Model.hmac(k, row(m));
    }

    private static byte[][] spread(byte[] s, byte[] m, char c) {
        byte[] q = mac(s, m), f = mac(q, one(c), one(1));
        return new byte[][] {f, mac(q, f, one(c), one(2))};
    }

    private static byte[] agree(byte[] k, byte[] u) throws GeneralSecurityException {
        byte[] highFirst = new byte[32];
        for (int i = 0; i < 32; i++) {
            highFirst[i] = u[31 - i];
        }
        KeyFactory keys = KeyFactory.getInstance("X25519");
        PrivateKey secret = keys.generatePrivate(new XECPrivateKeySpec(NamedParameterSpec.X25519, k));
        PublicKey point = keys.generatePublic(
            new XECPublicKeySpec(NamedParameterSpec.X25519, new BigInteger(1, highFirst).clearBit(255)));
        KeyAgreement agreement = KeyAgreement.getInstance("X25519");
        agreement.init(secret);
        agreement.doPhase(point, true);
        return agreement.generateSecret();
    }

    private static byte[] shown(byte[] secret) throws GeneralSecurityException {
        return agree(secret, NINE);
    }

    private static byte[] secret(int j) {
        return Model.sha(row(low(SEED, 4), low(j, 4)));
    }

    private static byte[] identity(int person) {
        return secret(person);
    }

    private static byte[] prekey(int person) {
        return secret(4 + person);
    }

    private static byte[] tie() throws GeneralSecurityException {
        return row(shown(identity(0)), shown(identity(1)));
    }

    private static void put(RatchetDesk desk, int k, byte[] key) {
        for (int part = 0; part < 4; part++) {
            desk.put(k, part, ByteBuffer.wrap(key).order(ByteOrder.LITTLE_ENDIAN).getLong(8 * part));
        }
    }

    private static byte[] get(RatchetDesk desk, int k) {
        return row(low(desk.get(k, 0), 8), low(desk.get(k, 1), 8), low(desk.get(k, 2), 8), low(desk.get(k, 3), 8));
    }

    private static byte[] word(RatchetDesk desk, int end, int what) {
        return row(low(desk.word(end, what, 0), 8), low(desk.word(end, what, 1), 8), low(desk.word(end, what, 2), 8),
            low(desk.word(end, what, 3), 8));
    }

    private static byte[] wire(RatchetDesk desk, int letter) {
        byte[] bytes = new byte[desk.length(letter)];
        for (int at = 0; at < bytes.length; at++) {
            bytes[at] = (byte) desk.wire(letter, at);
        }
        return bytes;
    }

    private static void hold(String what, byte[] got, byte[] want) {
        Both.hold(what, Keys.hex(got), Keys.hex(want));
    }

    private static byte[] random(Random random) {
        byte[] key = new byte[32];
        random.nextBytes(key);
        return key;
    }

    private static byte[] each(byte[] key, int mask) {
        byte[] changed = new byte[32];
        for (int i = 0; i < 32; i++) {
            changed[i] = (byte) (key[i] ^ mask);
        }
        return changed;
    }

    private static void macByTwoDigests() {
        Random random = new Random(1);
        for (int i = 0; i < 8; i++) {
            byte[] k = random(random), m = random(random);
            RatchetDesk desk = new RatchetDesk(0);
            put(desk, 0, each(k, 54));
            put(desk, 1, each(ZERO, 54));
            put(desk, 2, m);
            desk.digest(96, 2);
            put(desk, 0, each(k, 92));
            put(desk, 1, each(ZERO, 92));
            desk.digest(96, 3);
            put(desk, 0, k);
            put(desk, 1, m);
            desk.mac(0, 1, 2);
            hold("MAC(k, m) is DIGEST(k and 32 bytes 0, each ^ 92, DIGEST(.. each ^ 54, m))", get(desk, 2),
                get(desk, 3));
        }
    }

    private static void agreeByTheLibrary() throws GeneralSecurityException {
        Random random = new Random(2);
        RatchetDesk desk = new RatchetDesk(0);
        for (int i = 0; i < 30; i++) {
            byte[] k = random(random), u = random(random);
            put(desk, 0, k);
            put(desk, 1, u);
            desk.agree(0, 1, 2);
            hold("AGREE(k, u), of two keys (X25519)", get(desk, 2), agree(k, u));
        }
    }

    private static void publicIsAgreeWithNine() throws GeneralSecurityException {
        // What one has agreed upon with the other's PUBLIC the other one has with his.
        byte[] k = secret(100), l = secret(101);
        RatchetDesk desk = new RatchetDesk(0);
        put(desk, 0, k);
        put(desk, 1, l);
        put(desk, 3, NINE);
        desk.agree(0, 3, 2);
        hold("PUBLIC(k) is AGREE(k, 9)", get(desk, 2), shown(k));
        desk.agree(1, 2, 2);
        desk.agree(1, 3, 3);
        desk.agree(0, 3, 3);
        hold("AGREE(l, PUBLIC(k)) is AGREE(k, PUBLIC(l))", get(desk, 3), get(desk, 2));
    }

    /** Secret 8 is the one-time secret, if there is to be one; then come e and the ratchet secret. */
    private static RatchetDesk begun(boolean oneTime) {
        RatchetDesk desk = new RatchetDesk(SEED);
        if (oneTime) {
            desk.stock(1);
        }
        desk.begin(0, 1);
        return desk;
    }

    private static int numberOfE(boolean oneTime) {
        return oneTime ? 9 : 8;
    }

    private static byte[] rootOfWhoBegan(boolean oneTime) throws GeneralSecurityException {
        byte[] e = secret(numberOfE(oneTime));
        byte[] three = row(FULL, agree(identity(0), shown(prekey(1))), agree(e, shown(identity(1))),
            agree(e, shown(prekey(1))));
        return spread(ZERO, oneTime ? row(three, agree(e, shown(secret(8)))) : three, 'X')[0];
    }

    private static byte[] rootOfWhoAnswered(boolean oneTime) throws GeneralSecurityException {
        byte[] shownE = shown(secret(numberOfE(oneTime)));
        byte[] three = row(FULL, agree(prekey(1), shown(identity(0))), agree(identity(1), shownE),
            agree(prekey(1), shownE));
        return spread(ZERO, oneTime ? row(three, agree(secret(8), shownE)) : three, 'X')[0];
    }

    /** Root and sending chain of the end that began. */
    private static byte[][] firstTurn(boolean oneTime) throws GeneralSecurityException {
        byte[] own = secret(numberOfE(oneTime) + 1);
        return spread(rootOfWhoBegan(oneTime), agree(own, shown(prekey(1))), 'R');
    }

    private static void beginning(boolean oneTime) throws GeneralSecurityException {
        RatchetDesk desk = begun(oneTime);
        byte[][] turned = firstTurn(oneTime);
        hold("the new end has the root S, and it turns: the root", word(desk, 0, 0), turned[0]);
        hold("it turns: the sending chain", word(desk, 0, 1), turned[1]);
        hold("no receiving chain", word(desk, 0, 2), ZERO);
        hold("a secret is made, which is its own ratchet secret now", word(desk, 0, 3),
            shown(secret(numberOfE(oneTime) + 1)));
        hold("the other's ratchet key is PUBLIC(b's prekey)", word(desk, 0, 4), shown(prekey(1)));
    }

    /** A letter of 50 bytes as it is due; what stands behind is for the letters of who began. */
    private static byte[] letter(byte[] chain, byte[] ownSecret, int before, int number, long text)
            throws GeneralSecurityException {
        byte[][] two = spread(ZERO, mac(chain, one(1)), 'M');
        byte[] header = row(shown(ownSecret), one(before), one(number));
        byte[] sealed = low(text, 8), cover = mac(two[0], header);
        for (int i = 0; i < 8; i++) {
            sealed[i] ^= cover[i];
        }
        return row(header, sealed, Arrays.copyOf(mac(two[1], tie(), header, sealed), 8));
    }

    private static void firstLetters(boolean oneTime) throws GeneralSecurityException {
        RatchetDesk desk = begun(oneTime);
        byte[] chain = firstTurn(oneTime)[1], own = secret(numberOfE(oneTime) + 1);
        byte[] behind = row(one(0), one(oneTime ? 0 : 255), shown(secret(numberOfE(oneTime))));
        for (int n = 0; n < 3; n++) {
            desk.send(0, TEXT + n);
            hold("a letter is a row: header, sealed bytes, mark, who began, o, PUBLIC(e)", wire(desk, n),
                row(letter(chain, own, 0, n, TEXT + n), behind));
            chain = mac(chain, one(2));
            hold("the chain becomes MAC(chain, 2)", word(desk, 0, 1), chain);
        }
        hold("the root is as it was", word(desk, 0, 0), firstTurn(oneTime)[0]);
    }

    private static void answering(boolean oneTime) throws GeneralSecurityException {
        hold("S of the two is one", rootOfWhoAnswered(oneTime), rootOfWhoBegan(oneTime));
        RatchetDesk desk = begun(oneTime);
        desk.send(0, TEXT);
        desk.answer(1, 0);
        byte[] k = shown(secret(numberOfE(oneTime) + 1)), own = secret(numberOfE(oneTime) + 2);
        byte[][] opened = spread(rootOfWhoAnswered(oneTime), agree(prekey(1), k), 'R');
        byte[][] turned = spread(opened[0], agree(own, k), 'R');
        hold("the letter's key was the first of the receiving chain", word(desk, 1, 2), mac(opened[1], one(2)));
        hold("in the end the end turns: the root", word(desk, 1, 0), turned[0]);
        hold("in the end the end turns: the sending chain", word(desk, 1, 1), turned[1]);
        hold("a secret was made", word(desk, 1, 3), shown(own));
        hold("the other's ratchet key becomes k", word(desk, 1, 4), k);
        Both.hold("the text", Long.toHexString(desk.text(1)), Long.toHexString(TEXT));
        desk.send(1, REPLY);
        hold("a letter of who answered has 50 bytes, and the tie is that of the talk", wire(desk, 1),
            letter(turned[1], own, 0, 0, REPLY));
    }

    private static void openingAndTurning(boolean oneTime) throws GeneralSecurityException {
        RatchetDesk desk = begun(oneTime);
        desk.send(0, TEXT);
        desk.answer(1, 0);
        desk.send(1, REPLY);
        byte[] own = secret(numberOfE(oneTime) + 1), k = word(desk, 1, 3), chain = word(desk, 1, 1);
        byte[][] opened = spread(word(desk, 0, 0), agree(own, k), 'R');
        byte[] next = secret(numberOfE(oneTime) + 3);
        byte[][] turned = spread(opened[0], agree(next, k), 'R');
        desk.open(0, 1);
        hold("the chain by which it came is that by which it was sent", word(desk, 0, 2), chain);
        hold("and it went on by one", word(desk, 0, 2), mac(opened[1], one(2)));
        hold("the end turned: the root", word(desk, 0, 0), turned[0]);
        hold("the end turned: the sending chain", word(desk, 0, 1), turned[1]);
        hold("the end turned: a secret was made", word(desk, 0, 3), shown(next));
        hold("the other's ratchet key", word(desk, 0, 4), k);
        desk.send(0, -1L);
        hold("BEFORE is 1, and behind the 50 bytes stands nothing", wire(desk, 2), letter(turned[1], next, 1, 0, -1L));
    }

    private static void keptKeysAreOfTheChain() throws GeneralSecurityException {
        RatchetDesk desk = begun(false);
        byte[] chain = firstTurn(false)[1];
        for (int n = 0; n < 5; n++) {
            desk.send(0, TEXT + n);
        }
        desk.answer(1, 3);
        for (int n = 0; n < 4; n++) {
            chain = mac(chain, one(2));
        }
        hold("the letter keys for COME .. n - 1 are made by the chain, the next is for this letter",
            word(desk, 1, 2), chain);
        byte[] root = word(desk, 1, 0);
        for (int n : new int[] {1, 0, 2}) {
            Both.hold("OPENED by a kept key", "" + desk.open(1, n), "0");
            Both.hold("text " + n, "" + desk.text(1), "" + (TEXT + n));
            hold("the chain stays where it is", word(desk, 1, 2), chain);
            hold("and the root", word(desk, 1, 0), root);
        }
    }
}
