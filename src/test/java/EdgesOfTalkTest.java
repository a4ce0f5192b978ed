import java.nio.ByteBuffer;
import java.nio.ByteOrder;
import java.util.Arrays;

/**
 * The edges in promises 7 to 11 and 15 to 19 and in the terms of secrets, beginning, turning and
 * letters: each run bears the sentence that it holds. What throws stands in EdgesOfRefusalsTest.
 */
public final class EdgesOfTalkTest {
    public static void main(String[] args) {
        secretsOneAfterTheOther();
        secretsOfRefusedCalls();
        secretsUpToTheMost();
        oneTimeNumbersOfEachPerson();
        offersWhenNoneWasMade();
        offerWithTheLeastNumber();
        offersUpToTheLast();
        offerOfTheOtherOneAlone();
        offerStaysTakenWithoutAnAnswer();
        endsFromZeroToEight();
        endThatOpenedNothing();
        bothOfAnEnd();
        twoTalksOfTheSameTwo();
        textsOfEveryKind();
        lettersFromZeroToFortyEight();
        numbersInALetter();
        longUntilOneIsOpened();
        shortOfOneThatAnswered();
        numberOfOInALetter();
        whoBeganInALetter();
        forgedToWhatItWas();
        forgedAtBothEnds();
        forgedFromAForgedOne();
        forgedAndSentByTurns();
        fiveHundredAndTwelveCalls();
        Both.end();
    }

    /** PUBLIC of secret j, in hex, straight from the document's sentence on secrets. */
    private static String shownSecret(int seed, int j) {
        byte[] row = ByteBuffer.allocate(8).order(ByteOrder.LITTLE_ENDIAN).putInt(seed).putInt(j).array();
        return Keys.hex(Model.x25519(Model.sha(row), Keys.bytes("09" + "00".repeat(31))));
    }

    private static String bytesOf(Both both, int letter, int from, int to) {
        byte[] bytes = new byte[to - from];
        for (int at = from; at < to; at++) {
            bytes[at - from] = (byte) both.number("wire", letter, at);
        }
        return Keys.hex(bytes);
    }

    private static void secretsOneAfterTheOther() {
        int seed = -77;
        Both both = new Both("secrets are made one after the other, from 8 on", seed);
        both.due(0, "stock", 1);
        both.due(0, "begin", 0, 1);
        Scenes.send(both, 0, 1);
        Both.hold("e is secret 9", bytesOf(both, 0, 52, 84), shownSecret(seed, 9));
        Both.hold("the ratchet secret is 10", bytesOf(both, 0, 0, 32), shownSecret(seed, 10));
        both.due(1, "begin", 0, 2);
        Scenes.send(both, 1, 1);
        Both.hold("e is secret 11", bytesOf(both, 1, 52, 84), shownSecret(seed, 11));
        Both.hold("the ratchet secret is 12", bytesOf(both, 1, 0, 32), shownSecret(seed, 12));
        // One that answers makes one secret, one that opens by the chain that stands none.
        both.due(2, "answer", 1, 0);
        Scenes.send(both, 2, 2);
        Both.hold("who answers makes secret 13", bytesOf(both, 2, 0, 32), shownSecret(seed, 13));
        both.due(Scenes.OPENED, "open", 0, 2);
        both.due(Scenes.OPENED, "open", 0, 3);
        Scenes.send(both, 0, 1);
        Both.hold("who opens and turns makes secret 14", bytesOf(both, 4, 0, 32), shownSecret(seed, 14));
        both.due(3, "begin", 3, 0);
        Scenes.send(both, 3, 1);
        Both.hold("the next is 15", bytesOf(both, 5, 52, 84), shownSecret(seed, 15));
    }

    private static void secretsOfRefusedCalls() {
        int seed = 78;
        Both both = Scenes.answered("no secret is made by a refused call", seed);
        both.refuse(Both.ARGUMENT, "begin", 0, 0);
        both.refuse(Both.INDEX, "begin", 0, 4);
        both.refuse(Both.INDEX, "stock", 4);
        Scenes.send(both, 1, 1);
        int wrong = Scenes.spoil(both, 1, 49);
        int far = both.change(1, Scenes.NUMBER, 7);
        both.refuse(Scenes.WRONG, "open", 0, wrong);
        both.refuse(Scenes.FAR, "open", 0, far);
        both.refuse(Scenes.WRONG, "answer", 3, 0);
        both.refuse(Scenes.WRONG, "answer", 0, 0);
        both.unchanged();
        both.due(Scenes.OPENED, "open", 0, 1);
        both.refuse(Scenes.OLD, "open", 0, 1);
        both.unchanged();
        Scenes.send(both, 0, 1);
        // 8 and 9 to begin, 10 to answer.
        Both.hold("the next is 11", bytesOf(both, 4, 0, 32), shownSecret(seed, 11));
    }

    private static void secretsUpToTheMost() {
        int seed = 101;
        Both both = new Both("secrets are made one after the other, a hundred and more of them", seed);
        for (int i = 0; i < 32; i++) {
            both.due(i / 4, "stock", i % 4);
        }
        both.due(0, "begin", 0, 1);
        both.due(0, "send", 0, 0L);
        both.due(1, "answer", 1, 0);
        // 40 and 41 to begin, 42 to answer; then each letter turns the one who opens it.
        for (int letter = 1; letter < 48; letter++) {
            both.due(letter, "send", letter % 2, (long) letter);
            both.due(Scenes.OPENED, "open", 1 - letter % 2, letter);
        }
        Both.hold("the last turn's is 89", shownOf(both, 0), shownSecret(seed, 89));
        for (int end = 2; end < 8; end++) {
            both.due(end, "begin", 2, 3);
            Both.hold("the ratchet secret of end " + end, shownOf(both, end), shownSecret(seed, 87 + 2 * end));
        }
    }

    private static String shownOf(Both both, int end) {
        StringBuilder hex = new StringBuilder();
        for (int part = 0; part < 4; part++) {
            hex.append(String.format("%016x", Long.reverseBytes(Long.parseLong(both.call("word", end, 3, part)))));
        }
        return hex.toString();
    }

    private static void oneTimeNumbersOfEachPerson() {
        Both both = new Both("with the numbers 0 .. 7 in the order in which they are made", 79);
        for (int i = 0; i < 8; i++) {
            for (int person = 0; person < 4; person++) {
                both.due(i, "offers", person);
                both.due(i, "stock", person);
                both.due(i + 1, "offers", person);
            }
        }
    }

    private static void offersWhenNoneWasMade() {
        Both both = new Both("how many a person has on offer: none yet", 80);
        for (int person = 0; person < 4; person++) {
            both.due(0, "offers", person);
        }
        both.due(0, "begin", 0, 1);
        both.due(0, "offers", 1);
        both.due(0, "stock", 1);
        both.due(1, "offers", 1);
        // The one who began before told none.
        Scenes.send(both, 0, 1);
        both.due(255, "wire", 0, 51);
        both.due(1, "answer", 1, 0);
        both.due(1, "offers", 1);
    }

    private static void offerWithTheLeastNumber() {
        Both both = new Both("o is b's one-time secret on offer with the least number", 81);
        for (int i = 0; i < 3; i++) {
            both.due(i, "stock", 1);
        }
        int[] from = {0, 2, 3};
        for (int i = 0; i < 3; i++) {
            both.due(i, "begin", from[i], 1);
            Scenes.send(both, i, 1);
            both.due(i, "wire", i, 51);
            both.due(2 - i, "offers", 1);
        }
        // Answered in another order: each by the one that was told.
        both.due(3, "answer", 1, 2);
        both.due(4, "answer", 1, 0);
        both.due(5, "answer", 1, 1);
        both.due(1002, "text", 3);
        both.due(1000, "text", 4);
        both.due(1001, "text", 5);
        // Numbers go on behind those that were used.
        both.due(3, "stock", 1);
        both.due(6, "begin", 0, 1);
        Scenes.send(both, 6, 1);
        both.due(3, "wire", 3, 51);
    }

    private static void offersUpToTheLast() {
        Both both = new Both("if there is one: eight, and then none", 82);
        for (int i = 0; i < 7; i++) {
            both.due(i, "stock", 3);
        }
        for (int i = 0; i < 7; i++) {
            both.due(i, "begin", 0, 3);
        }
        both.due(0, "offers", 3);
        both.due(7, "stock", 3);
        both.due(7, "begin", 1, 3);
        both.due(0, "offers", 3);
        Scenes.send(both, 7, 1);
        both.due(7, "wire", 0, 51);
        Scenes.send(both, 6, 1);
        both.due(6, "wire", 1, 51);
        Both none = new Both("and then none", 82);
        none.due(0, "stock", 3);
        none.due(0, "begin", 0, 3);
        none.due(1, "begin", 0, 3);
        none.due(0, "offers", 3);
        Scenes.send(none, 0, 1);
        Scenes.send(none, 1, 1);
        none.due(0, "wire", 0, 51);
        none.due(255, "wire", 1, 51);
        none.due(2, "answer", 3, 1);
        none.due(3, "answer", 3, 0);
        none.due(1001, "text", 2);
        none.due(1000, "text", 3);
    }

    private static void offerOfTheOtherOneAlone() {
        Both both = new Both("b's one-time secret and nobody else's", 83);
        for (int person = 0; person < 4; person++) {
            both.due(0, "stock", person);
        }
        both.due(0, "begin", 2, 1);
        for (int person = 0; person < 4; person++) {
            both.due(person == 1 ? 0 : 1, "offers", person);
        }
    }

    private static void offerStaysTakenWithoutAnAnswer() {
        Both both = Scenes.begun("on offer until somebody begins with it", 84, 1);
        both.due(0, "offers", 1);
        // Nobody answered, or could: it is on offer no more.
        both.refuse(Scenes.WRONG, "answer", 3, 0);
        both.refuse(Scenes.WRONG, "answer", 0, 0);
        both.unchanged();
        both.due(0, "offers", 1);
        both.due(1, "begin", 2, 1);
        Scenes.send(both, 1, 1);
        both.due(255, "wire", 1, 51);
        // And kept until it was used.
        both.due(2, "answer", 1, 0);
        both.due(0, "offers", 1);
    }

    private static void endsFromZeroToEight() {
        Both both = new Both("the number of the new end, from 0; how many ends there are", 85);
        both.due(0, "ends");
        both.due(0, "begin", 3, 0);
        both.due(1, "ends");
        Scenes.send(both, 0, 1);
        both.due(1, "answer", 0, 0);
        both.due(2, "ends");
        for (int end = 2; end < 8; end++) {
            both.due(end, end % 2 == 0 ? "begin" : "answer", end % 2 == 0 ? 1 : 0, end % 2 == 0 ? 2 : 0);
            both.due(end + 1, "ends");
        }
        both.refuse(Both.STATE, "begin", 0, 1);
        both.refuse(Both.STATE, "answer", 0, 0);
        both.unchanged();
        both.due(8, "ends");
    }

    private static void endThatOpenedNothing() {
        Both both = new Both("an end that sent, opened and keeps nothing yet", 86);
        both.due(0, "begin", 1, 3);
        for (int what = 0; what < 4; what++) {
            both.due(0, "count", 0, what);
        }
        both.due(0, "text", 0);
        for (int part = 0; part < 4; part++) {
            both.due(0, "word", 0, 2, part);
            for (int what : new int[] {0, 1, 3, 4}) {
                Both.hold("word " + what, "" + both.call("word", 0, what, part).equals("0"), "false");
            }
        }
        Scenes.send(both, 0, 1);
        both.due(false, "keeps", 0, 0);
        both.due(1, "count", 0, 0);
        both.due(0, "count", 0, 1);
        both.due(0, "text", 0);
    }

    private static void bothOfAnEnd() {
        for (int from = 0; from < 4; from++) {
            for (int to = 0; to < 4; to++) {
                if (from != to) {
                    Both both = new Both("the person of an end, or the other one", 87);
                    both.due(0, "begin", from, to);
                    Scenes.send(both, 0, 1);
                    both.due(1, "answer", to, 0);
                    both.due(from, "person", 0, false);
                    both.due(to, "person", 0, true);
                    both.due(to, "person", 1, false);
                    both.due(from, "person", 1, true);
                    Scenes.send(both, 1, 1);
                    both.due(Scenes.OPENED, "open", 0, 1);
                    both.due(from, "person", 0, false);
                    both.due(to, "person", 0, true);
                }
            }
        }
    }

    private static void twoTalksOfTheSameTwo() {
        Both both = Scenes.answered("an end is one side of a talk: of two talks", 88);
        both.due(2, "begin", 0, 1);
        Scenes.send(both, 2, 1);
        both.due(3, "answer", 1, 1);
        // A letter of the one is none of the other.
        Scenes.send(both, 0, 1);
        Scenes.send(both, 2, 1);
        both.refuse(Scenes.WRONG, "open", 3, 2);
        both.refuse(Scenes.WRONG, "open", 1, 3);
        both.unchanged();
        both.due(Scenes.OPENED, "open", 1, 2);
        both.due(Scenes.OPENED, "open", 3, 3);
        both.due(1002, "text", 1);
        both.due(1003, "text", 3);
    }

    private static void textsOfEveryKind() {
        long[] texts = {0L, 1L, -1L, Long.MIN_VALUE, Long.MAX_VALUE, 255L, 256L, 0x8000000000000001L,
            0x0102030405060708L, 0x80808080ffffffffL};
        Both both = new Both("eight bytes, the lowest of text first; the first one lowest", 89);
        both.due(0, "begin", 0, 1);
        for (int i = 0; i < texts.length; i++) {
            both.due(i, "send", 0, texts[i]);
            if (i == 0) {
                both.due(1, "answer", 1, 0);
            } else {
                both.due(Scenes.OPENED, "open", 1, i);
            }
            both.due(texts[i], "text", 1);
        }
        // The first sealed byte is the lowest's: turned by 1 in the letter, by 1 in the text.
        Both first = Scenes.answered("the lowest of text first", 89);
        Scenes.send(first, 0, 2);
        int low = first.craft(1, 1, Scenes.SEALED, first.number("wire", 1, Scenes.SEALED) ^ 1);
        first.due(Scenes.OPENED, "open", 1, low);
        first.due(1001 ^ 1, "text", 1);
        int high = first.craft(1, 2, Scenes.SEALED + 7, first.number("wire", 2, Scenes.SEALED + 7) ^ 128);
        first.due(Scenes.OPENED, "open", 1, high);
        first.due(1002 ^ Long.MIN_VALUE, "text", 1);
    }

    private static void lettersFromZeroToFortyEight() {
        Both both = new Both("the number of the letter, from 0; how many letters there are: at most 48", 90);
        both.due(0, "letters");
        both.due(0, "begin", 0, 1);
        both.due(0, "letters");
        for (int i = 0; i < 48; i++) {
            both.due(i, i % 3 == 2 ? "forge" : "send", i % 3 == 2 ? new Object[] {i - 1, 0, 0} : new Object[] {0, 5L});
            both.due(i + 1, "letters");
            both.due(84, "length", i);
        }
        both.refuse(Both.STATE, "send", 0, 5L);
        both.refuse(Both.STATE, "forge", 0, 0, 0);
        both.unchanged();
        both.due(48, "letters");
    }

    private static void numbersInALetter() {
        // The most that one chain can come to: 48 letters, and 47 as the last one's number.
        Both all = new Both("the letter's number, which is SENT before it", 91);
        all.due(0, "begin", 0, 1);
        for (int i = 0; i < 48; i++) {
            all.due(i, "count", 0, 0);
            Scenes.send(all, 0, 1);
            all.due(i, "wire", i, Scenes.NUMBER);
            all.due(0, "wire", i, Scenes.BEFORE);
        }
        all.due(48, "count", 0, 0);
        Both both = Scenes.answered("BEFORE becomes SENT, SENT 0", 91);
        Scenes.send(both, 0, 4);
        both.due(0, "count", 0, 2);
        both.due(0, "count", 1, 2);
        Scenes.send(both, 1, 1);
        both.due(0, "wire", 5, Scenes.BEFORE);
        both.due(Scenes.OPENED, "open", 0, 5);
        both.due(5, "count", 0, 2);
        both.due(0, "count", 0, 0);
        Scenes.send(both, 0, 2);
        both.due(5, "wire", 6, Scenes.BEFORE);
        both.due(0, "wire", 6, Scenes.NUMBER);
        both.due(5, "wire", 7, Scenes.BEFORE);
        both.due(1, "wire", 7, Scenes.NUMBER);
        both.due(Scenes.OPENED, "open", 1, 6);
        both.due(1, "count", 1, 2);
        both.due(0, "count", 1, 0);
        // The greatest BEFORE that a letter can have: one is the reply, and one has it.
        Both most = Scenes.answered("BEFORE, in a letter: 46", 91);
        Scenes.send(most, 0, 45);
        Scenes.send(most, 1, 1);
        most.due(Scenes.OPENED, "open", 0, 46);
        most.due(46, "count", 0, 2);
        Scenes.send(most, 0, 1);
        most.due(46, "wire", 47, Scenes.BEFORE);
        // Turned twice, by letters that are made up: by the second time nothing was sent since.
        int turn = both.craft(0, 5, 0, both.number("wire", 5, 0) ^ 1, Scenes.BEFORE, 1);
        both.due(2, "count", 0, 0);
        both.due(Scenes.OPENED, "open", 0, turn);
        both.due(2, "count", 0, 2);
        int again = both.craft(0, 5, 0, both.number("wire", 5, 0) ^ 2, Scenes.BEFORE, 1);
        both.due(Scenes.OPENED, "open", 0, again);
        both.due(0, "count", 0, 2);
        both.due(0, "count", 0, 0);
    }

    private static void longUntilOneIsOpened() {
        Both both = Scenes.answered("as long as an end that began has opened no letter: 84 bytes", 92);
        Scenes.send(both, 1, 2);
        int wrong = Scenes.spoil(both, 1, 42);
        int far = both.change(1, Scenes.NUMBER, 7);
        both.refuse(Scenes.WRONG, "open", 0, wrong);
        both.refuse(Scenes.FAR, "open", 0, far);
        both.unchanged();
        Scenes.send(both, 0, 1);
        both.due(84, "length", 5);
        both.due(Scenes.OPENED, "open", 0, 2);
        Scenes.send(both, 0, 1);
        both.due(50, "length", 6);
        both.due(Both.INDEX, "wire", 6, 50);
        // It stays so, whatever does not open later.
        both.refuse(Scenes.OLD, "open", 0, 2);
        both.refuse(Scenes.WRONG, "open", 0, wrong);
        both.unchanged();
        Scenes.send(both, 0, 1);
        both.due(50, "length", 7);
        // The long one is good for who has the end already, too.
        both.due(Scenes.OPENED, "open", 1, 5);
        both.due(1005, "text", 1);
        both.due(Scenes.OPENED, "open", 1, 7);
    }

    private static void shortOfOneThatAnswered() {
        Both both = Scenes.answered("an end that answered sends 50 bytes from the first on", 93);
        Scenes.send(both, 1, 1);
        both.due(50, "length", 1);
        // Another end of the same person that began has 84.
        both.due(2, "begin", 1, 0);
        Scenes.send(both, 2, 1);
        both.due(84, "length", 2);
        Scenes.send(both, 1, 1);
        both.due(50, "length", 3);
        both.due(84, "length", 0);
    }

    private static void numberOfOInALetter() {
        Both both = new Both("the number of o or 255 without", 94);
        both.due(0, "begin", 0, 1);
        both.due(0, "stock", 1);
        both.due(1, "begin", 0, 1);
        both.due(2, "begin", 0, 1);
        for (int end = 0; end < 3; end++) {
            Scenes.send(both, end, 2);
        }
        int[] told = {255, 255, 0, 0, 255, 255};
        for (int letter = 0; letter < 6; letter++) {
            both.due(told[letter], "wire", letter, Scenes.ONE_TIME);
        }
        // One that is made later does not come into the letters of who began before.
        both.due(1, "stock", 1);
        Scenes.send(both, 0, 1);
        both.due(255, "wire", 6, Scenes.ONE_TIME);
        both.due(1, "offers", 1);
    }

    private static void whoBeganInALetter() {
        for (int from = 0; from < 4; from++) {
            Both both = new Both("who began (a byte)", 95);
            both.due(0, "begin", from, 3 - from);
            Scenes.send(both, 0, 1);
            both.due(from, "wire", 0, Scenes.BEGINNER);
            both.due(255, "wire", 0, Scenes.ONE_TIME);
        }
    }

    private static void forgedToWhatItWas() {
        Both both = Scenes.begun("one byte changed (also to what it was)", 96, 1);
        byte[] first = Keys.bytes(bytesOf(both, 0, 0, 84));
        for (int at : new int[] {0, 33, 49, 83}) {
            int like = both.number("forge", 0, at, first[at] & 255);
            Both.hold("it is like the other", bytesOf(both, like, 0, 84), Keys.hex(first));
        }
        both.due(1, "answer", 1, 4);
        both.due(1000, "text", 1);
        // The first and the forged one are one to the end: it came.
        both.due(Scenes.OLD, "open", 1, 0);
    }

    private static void forgedAtBothEnds() {
        Both both = Scenes.answered("a letter like another one with one byte changed", 97);
        Scenes.send(both, 1, 1);
        for (int letter = 0; letter < 2; letter++) {
            int last = letter == 0 ? 83 : 49;
            String was = bytesOf(both, letter, 0, last + 1);
            for (int at : new int[] {0, last}) {
                for (int value : new int[] {0, 255}) {
                    int forged = both.number("forge", letter, at, value);
                    byte[] want = Keys.bytes(was);
                    want[at] = (byte) value;
                    both.due(last + 1, "length", forged);
                    both.due(value, "wire", forged, at);
                    both.due(both.number("wire", letter, 17), "wire", forged, 17);
                    Both.hold("changed in one byte", bytesOf(both, forged, at == 0 ? 0 : last - 9, at == 0 ? 10 : last + 1),
                        Keys.hex(Arrays.copyOfRange(want, at == 0 ? 0 : last - 9, at == 0 ? 10 : last + 1)));
                }
            }
            Both.hold("the other one is as it was", bytesOf(both, letter, 0, last + 1), was);
        }
    }

    private static void forgedFromAForgedOne() {
        Both both = Scenes.begun("a letter like another one, which is forged itself", 98, 0);
        int was = both.number("wire", 0, 60);
        both.due(1, "forge", 0, 60, was ^ 255);
        both.due(2, "forge", 1, 61, 7);
        both.due(was ^ 255, "wire", 2, 60);
        both.due(7, "wire", 2, 61);
        both.due(was ^ 255, "wire", 1, 60);
        both.due(was, "wire", 0, 60);
        both.refuse(Scenes.WRONG, "answer", 1, 2);
        both.unchanged();
        // Changed back, it is the first again.
        both.due(3, "forge", 1, 60, was);
        both.due(1, "answer", 1, 3);
    }

    private static void forgedAndSentByTurns() {
        Both both = Scenes.answered("to forge changes no end", 99);
        both.due(1, "forge", 0, 0, 0);
        Scenes.send(both, 0, 1);
        both.due(1, "wire", 2, Scenes.NUMBER);
        both.due(3, "forge", 2, 0, 0);
        Scenes.send(both, 0, 1);
        both.due(2, "wire", 4, Scenes.NUMBER);
        both.due(3, "count", 0, 0);
        both.due(Scenes.OPENED, "open", 1, 4);
        both.due(Scenes.OPENED, "open", 1, 2);
    }

    private static void fiveHundredAndTwelveCalls() {
        Both both = Scenes.full("used for at most 512 calls: the last ones are as good", 100);
        for (int i = both.callsLeft(); i > 35; i--) {
            both.call("open", i % 8, i % 48);
        }
        both.look(0);
        both.due(48, "letters");
        both.due(8, "ends");
        both.due("nothing", "put", 3, 3, -5L);
        both.due("nothing", "digest", 128, 0);
        while (both.callsLeft() > 1) {
            both.call("get", 0, both.callsLeft() % 4);
        }
        both.due(-5L, "get", 3, 3);
        Both.hold("all calls are used", "" + both.callsLeft(), "0");
    }
}
