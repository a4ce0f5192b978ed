/** Promises 7 to 11 and 15 to 19: one-time secrets, ends that begin, letters and their bytes. */
public final class TalkTest {
    private static final int[] NO_PERSON = {-1, 4, 255, Integer.MIN_VALUE, Integer.MAX_VALUE};

    public static void main(String[] args) {
        stocks();
        noSuchPerson();
        offersAreTakenInOrder();
        beginsWithEachOther();
        eightEnds();
        sends();
        longLettersUntilOneIsOpened();
        fortyEightLetters();
        forges();
        wrongForgeries();
        noSuchEndOrLetter();
        Both.end();
    }

    private static void stocks() {
        Both both = new Both("stock", 11);
        for (int n = 0; n < 8; n++) {
            both.due(n, "offers", 2);
            both.due(n, "stock", 2);
            if (n < 3) {
                both.due(n, "stock", 0);
            }
        }
        both.due(Both.STATE, "stock", 2);
        both.due(8, "offers", 2);
        both.due(3, "offers", 0);
        both.due(0, "offers", 1);
        // Still refused when some were taken: the person got 8.
        both.due(0, "begin", 0, 2);
        both.due(7, "offers", 2);
        both.due(Both.STATE, "stock", 2);
        // Refused calls made no secret: the next ones show in the keys of a beginning.
        both.due(3, "stock", 0);
        both.due(1, "begin", 2, 0);
        both.look(0);
        both.look(1);
    }

    private static void noSuchPerson() {
        Both both = new Both("no such person", 12);
        both.due(0, "begin", 0, 1);
        both.due(0, "send", 0, 5L);
        for (int bad : NO_PERSON) {
            both.due(Both.INDEX, "stock", bad);
            both.due(Both.INDEX, "offers", bad);
            both.due(Both.INDEX, "begin", bad, 0);
            both.due(Both.INDEX, "begin", 0, bad);
            both.due(Both.INDEX, "begin", bad, bad);
            both.due(Both.INDEX, "answer", bad, 0);
        }
        both.due(1, "ends");
        both.due(1, "begin", 1, 0);
        both.look(1);
    }

    private static void offersAreTakenInOrder() {
        Both both = new Both("offers", -9);
        for (int i = 0; i < 3; i++) {
            both.due(i, "stock", 1);
        }
        for (int i = 0; i < 5; i++) {
            both.due(i, "begin", i == 1 ? 2 : 0, 1);
            both.due(i < 3 ? 2 - i : 0, "offers", 1);
            both.due(i, "send", i, -1L);
            both.due(i < 3 ? i : 255, "wire", i, 51);
            both.due(i == 1 ? 2 : 0, "wire", i, 50);
        }
        // One that is made later is on offer again, with the next number.
        both.due(3, "stock", 1);
        both.due(1, "offers", 1);
        both.due(5, "begin", 3, 1);
        both.due(0, "offers", 1);
        both.due(5, "send", 5, 0L);
        both.due(3, "wire", 5, 51);
        for (int end = 0; end < 6; end++) {
            both.look(end);
        }
    }

    private static void beginsWithEachOther() {
        for (int from = 0; from < 4; from++) {
            Both both = new Both("begin by " + from, 100 + from);
            int n = 0;
            for (int to = 0; to < 4; to++) {
                both.due(n, "ends");
                if (to == from) {
                    both.due(Both.ARGUMENT, "begin", from, to);
                } else {
                    both.due(n, "begin", from, to);
                    both.due(from, "person", n, false);
                    both.due(to, "person", n, true);
                    both.due(0, "text", n);
                    for (int what = 0; what < 4; what++) {
                        both.due(0, "count", n, what);
                    }
                    for (int part = 0; part < 4; part++) {
                        both.due(0, "word", n, 2, part);
                    }
                    both.look(n);
                    n++;
                }
            }
            both.due(3, "ends");
        }
    }

    private static void eightEnds() {
        Both both = new Both("eight ends", 13);
        both.due(0, "stock", 1);
        both.due(1, "stock", 1);
        for (int n = 0; n < 7; n++) {
            both.due(n, "begin", 2, 3);
        }
        both.due(0, "send", 0, 1L);
        both.due(7, "answer", 3, 0);
        both.due(8, "ends");
        both.due(Both.STATE, "begin", 0, 1);
        both.due(Both.ARGUMENT, "begin", 1, 1);
        both.due(Both.INDEX, "begin", 4, 4);
        both.due(Both.STATE, "answer", 3, 0);
        // There is no room whatever the letter is worth.
        both.due(Both.STATE, "answer", 2, 0);
        both.due(Both.INDEX, "answer", 3, 1);
        both.due(Both.INDEX, "answer", 4, 0);
        both.due(8, "ends");
        both.due(2, "offers", 1);
        both.due(1, "send", 7, 9L);
        both.due(0, "open", 0, 1);
        both.look(0);
        both.look(7);
    }

    private static void sends() {
        Both both = new Both("send", Integer.MIN_VALUE);
        both.due(0, "begin", 1, 0);
        long[] texts = {0L, -1L, Long.MIN_VALUE, Long.MAX_VALUE, 0x0102030405060708L};
        for (int i = 0; i < texts.length; i++) {
            both.due(i, "letters");
            both.due(i, "send", 0, texts[i]);
            both.due(84, "length", i);
            both.due(i + 1, "count", 0, 0);
            both.due(0, "wire", i, 32);
            both.due(i, "wire", i, 33);
        }
        for (int at = 0; at < 84; at++) {
            both.call("wire", 0, at);
            both.call("wire", 4, at);
        }
        both.due(Both.INDEX, "wire", 0, 84);
        both.due(Both.INDEX, "wire", 0, -1);
        both.look(0);
        both.due(1, "answer", 0, 4);
        both.due(texts[4], "text", 1);
    }

    private static void longLettersUntilOneIsOpened() {
        Both both = new Both("84 and 50 bytes", 14);
        both.due(0, "begin", 3, 2);
        both.due(0, "send", 0, 10L);
        both.due(1, "answer", 2, 0);
        both.due(1, "send", 0, 11L);
        both.due(84, "length", 1);
        both.due(2, "send", 1, 20L);
        both.due(50, "length", 2);
        both.due(3, "forge", 2, 45, 1 + both.number("wire", 2, 45) & 255);
        // One that is not opened leaves the letters long.
        both.due(-3, "open", 0, 3);
        both.due(4, "send", 0, 12L);
        both.due(84, "length", 4);
        both.due(0, "open", 0, 2);
        both.due(5, "send", 0, 13L);
        both.due(50, "length", 5);
        both.due(3, "wire", 5, 32);
        both.due(0, "wire", 5, 33);
        both.due(Both.INDEX, "wire", 5, 50);
        for (int at = 0; at < 50; at++) {
            both.call("wire", 5, at);
            both.call("wire", 2, at);
        }
        for (int letter : new int[] {1, 4, 5}) {
            both.due(0, "open", 1, letter);
            both.look(1);
        }
    }

    private static void fortyEightLetters() {
        Both both = new Both("48 letters", 15);
        both.due(0, "begin", 0, 1);
        both.due(1, "begin", 1, 0);
        for (int i = 0; i < 46; i++) {
            both.due(i, "send", i & 1, (long) i);
        }
        both.due(46, "forge", 0, 0, 0);
        both.due(47, "send", 0, 1L);
        both.due(48, "letters");
        String before = both.look(0);
        both.due(Both.STATE, "send", 0, 1L);
        both.due(Both.STATE, "forge", 0, 0, 0);
        both.due(Both.ARGUMENT, "forge", 0, 0, 256);
        both.due(Both.INDEX, "forge", 48, 0, 0);
        both.due(Both.INDEX, "forge", 0, 84, 256);
        both.due(Both.INDEX, "send", 2, 1L);
        Both.hold("a send that throws changes nothing", both.look(0), before);
        both.due(48, "letters");
        both.due(2, "answer", 1, 0);
        both.due(1, "person", 2, false);
    }

    private static void forges() {
        Both both = new Both("forge", 16);
        both.due(0, "begin", 0, 1);
        both.due(0, "send", 0, 77L);
        both.due(1, "forge", 0, 83, 255);
        both.due(2, "forge", 1, 0, 0);
        int same = both.number("wire", 0, 40);
        both.due(3, "forge", 0, 40, same);
        for (int letter = 1; letter < 4; letter++) {
            both.due(84, "length", letter);
        }
        both.due(255, "wire", 1, 83);
        both.due(255, "wire", 2, 83);
        both.due(0, "wire", 2, 0);
        for (int at = 0; at < 84; at++) {
            both.call("wire", 0, at);
            both.call("wire", 2, at);
            both.call("wire", 3, at);
        }
        // One that is like the other is as good.
        both.due(1, "answer", 1, 3);
        both.due(77, "text", 1);
        both.due(4, "send", 1, 5L);
        both.due(5, "forge", 4, 49, 0);
        both.due(50, "length", 5);
        both.due(Both.INDEX, "forge", 4, 50, 0);
    }

    private static void wrongForgeries() {
        Both both = new Both("wrong forgeries", 17);
        both.due(Both.INDEX, "forge", 0, 0, 0);
        both.due(0, "begin", 0, 1);
        both.due(0, "send", 0, 77L);
        for (int value : new int[] {-1, 256, Integer.MIN_VALUE, Integer.MAX_VALUE}) {
            both.due(Both.ARGUMENT, "forge", 0, 0, value);
            both.due(Both.INDEX, "forge", 0, 84, value);
            both.due(Both.INDEX, "forge", 1, 0, value);
        }
        for (int at : new int[] {-1, 84, 85, Integer.MIN_VALUE, Integer.MAX_VALUE}) {
            both.due(Both.INDEX, "forge", 0, at, 0);
        }
        for (int letter : new int[] {-1, 1, 48, Integer.MIN_VALUE, Integer.MAX_VALUE}) {
            both.due(Both.INDEX, "forge", letter, 0, 0);
        }
        both.due(1, "letters");
        both.due(1, "forge", 0, 0, 255);
    }

    private static void noSuchEndOrLetter() {
        Both both = new Both("no such end or letter", 18);
        both.due(0, "begin", 0, 1);
        both.due(0, "send", 0, 77L);
        for (int bad : new int[] {-1, 1, 7, 8, 48, Integer.MIN_VALUE, Integer.MAX_VALUE}) {
            both.due(Both.INDEX, "send", bad, 1L);
            both.due(Both.INDEX, "open", bad, 0);
            both.due(Both.INDEX, "open", 0, bad);
            both.due(Both.INDEX, "answer", 1, bad);
            both.due(Both.INDEX, "text", bad);
            both.due(Both.INDEX, "person", bad, false);
            both.due(Both.INDEX, "person", bad, true);
            both.due(Both.INDEX, "length", bad);
            both.due(Both.INDEX, "wire", bad, 0);
            both.due(Both.INDEX, "count", bad, 0);
            both.due(Both.INDEX, "count", bad, 9);
            both.due(Both.INDEX, "keeps", bad, 0);
            both.due(Both.INDEX, "keeps", 0, bad);
            both.due(Both.INDEX, "word", bad, 0, 0);
            both.due(Both.INDEX, "word", bad, 9, 0);
        }
        both.due(1, "ends");
        both.due(1, "letters");
        both.look(0);
    }
}
