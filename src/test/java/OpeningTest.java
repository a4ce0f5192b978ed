/** Promises 12 to 14 and 20 to 22: letters that are answered and opened, in any order, twice, or spoiled. */
public final class OpeningTest {
    public static void main(String[] args) {
        answersByThreeAgreements();
        answersByFourAgreements();
        notToBeAnswered();
        oneTimeTold();
        answersWithHighBitOfTheShownKey();
        farAtAnswering();
        anyOrder();
        sixKept();
        keptOverATurn();
        farOverATurn();
        talkTurnsRound();
        everyByteSpoiled();
        spoiledLettersChangeNothing();
        spoiledKeptLetter();
        numbersSpoiled();
        lettersOfOthers();
        keyOfZero();
        severalEndsForOneLetter();
        otherNumbersOfCountAndWord();
        Both.end();
    }

    /** Each opens once; the second time it is OLD. */
    private static void openAll(Both both, int end, int... letters) {
        openOnce(both, end, -1, letters);
    }

    /** Of a chain that the other one turned from: the second time it is taken for a new turn, and is WRONG. */
    private static void openFormer(Both both, int end, int... letters) {
        openOnce(both, end, -3, letters);
    }

    private static void openOnce(Both both, int end, int then, int... letters) {
        for (int letter : letters) {
            both.due(0, "open", end, letter);
            both.due(1000L + letter, "text", end);
            both.due(false, "keeps", end, letter);
            both.due(then, "open", end, letter);
        }
    }

    private static void answersByThreeAgreements() {
        Both both = Scenes.answered("three agreements", 21);
        both.due(2, "ends");
        both.due(1, "person", 1, false);
        both.due(0, "person", 1, true);
        both.due(1000, "text", 1);
        both.due(0, "count", 1, 0);
        both.due(1, "count", 1, 1);
        both.due(0, "count", 1, 2);
        both.due(0, "count", 1, 3);
        both.look(0);
        both.look(1);
        Scenes.send(both, 1, 1);
        both.due(50, "length", 1);
        openAll(both, 0, 1);
        both.look(0);
    }

    private static void answersByFourAgreements() {
        Both both = Scenes.begun("four agreements", 22, 2);
        both.due(0, "wire", 0, 51);
        both.due(1, "answer", 1, 0);
        both.due(1000, "text", 1);
        both.due(1, "offers", 1);
        both.look(1);
        // The one-time secret was used.
        both.due(-3, "answer", 1, 0);
        both.due(2, "ends");
        Scenes.send(both, 0, 1);
        both.due(-3, "answer", 1, 1);
        both.due(0, "open", 1, 1);
        // The other one was not.
        both.due(2, "begin", 3, 1);
        both.due(0, "offers", 1);
        Scenes.send(both, 2, 1);
        both.due(1, "wire", 2, 51);
        both.due(3, "answer", 1, 2);
        both.look(3);
    }

    private static void notToBeAnswered() {
        Both both = Scenes.answered("not to be answered", 23);
        Scenes.send(both, 1, 1);
        both.due(50, "length", 1);
        for (int person = 0; person < 4; person++) {
            both.due(-3, "answer", person, 1);
        }
        // By who began himself, and by others than the one whom it is for.
        both.due(-3, "answer", 0, 0);
        both.due(-3, "answer", 2, 0);
        both.due(-3, "answer", 3, 0);
        int letter = 2;
        for (int who : new int[] {1, 2, 3, 4, 5, 127, 128, 254, 255}) {
            both.due(letter, "forge", 0, 50, who);
            both.due(-3, "answer", 1, letter);
            letter++;
        }
        int far = both.number("forge", 0, 33, 200);
        both.due(-2, "answer", 1, far);
        // Where there is nobody to answer to it is wrong, far or not.
        both.due(-3, "answer", 0, far);
        both.due(-3, "answer", 1, both.number("forge", far, 50, 4));
        both.due(-3, "answer", 1, both.number("forge", far, 51, 0));
        both.due(2, "ends");
        both.due(2, "answer", 1, 0);
        both.look(2);
    }

    private static void oneTimeTold() {
        Both both = Scenes.begun("one-time secret told", 24, 3);
        both.due(1, "begin", 2, 1);
        int letter = 1;
        for (int told : new int[] {1, 2, 3, 7, 8, 128, 254, 255}) {
            both.due(letter, "forge", 0, 51, told);
            both.due(-3, "answer", 1, letter);
            both.due(-3, "answer", 3, letter);
            letter++;
        }
        // Kept, on offer or not, is far; not kept is wrong.
        int far = both.number("forge", 0, 33, 7);
        both.due(-2, "answer", 1, far);
        both.due(-2, "answer", 1, both.number("forge", far, 51, 1));
        both.due(-2, "answer", 1, both.number("forge", far, 51, 2));
        both.due(-2, "answer", 1, both.number("forge", far, 51, 255));
        both.due(-3, "answer", 1, both.number("forge", far, 51, 3));
        both.due(-3, "answer", 3, far);
        both.due(1, "offers", 1);
        both.due(2, "answer", 1, 0);
        both.due(-3, "answer", 1, far);
        both.due(1, "offers", 1);
        // Without one told, one is told: only of use to him who has it.
        Both without = Scenes.begun("no one-time secret told", 25, 0);
        without.due(0, "stock", 1);
        without.due(255, "wire", 0, 51);
        without.due(1, "forge", 0, 51, 0);
        without.due(-3, "answer", 1, 1);
        without.due(1, "offers", 1);
        without.due(1, "answer", 1, 0);
        without.due(1, "offers", 1);
    }

    private static void answersWithHighBitOfTheShownKey() {
        // Bit 255 of a key does not count in an agreement, and no mark covers what introduces.
        Both both = Scenes.begun("high bit", 26, 1);
        int high = both.number("wire", 0, 83) ^ 128;
        both.due(1, "forge", 0, 83, high);
        both.due(1, "answer", 1, 1);
        both.due(1000, "text", 1);
        both.look(1);
        Scenes.send(both, 0, 1);
        both.due(3, "forge", 2, 60, 1);
        both.due(0, "open", 1, 3);
        both.due(1002, "text", 1);
        // In a header it counts.
        Scenes.send(both, 0, 1);
        both.due(5, "forge", 4, 31, both.number("wire", 4, 31) ^ 128);
        both.due(-3, "open", 1, 5);
        both.due(0, "open", 1, 4);
    }

    private static void farAtAnswering() {
        for (int n = 5; n <= 8; n++) {
            Both both = Scenes.begun("answers number " + n, 27, 1);
            Scenes.send(both, 0, n);
            both.due(n, "wire", n, 33);
            if (n > 6) {
                both.due(-2, "answer", 1, n);
                both.due(1, "ends");
                both.due(1, "answer", 1, 0);
                both.due(n == 7 ? 0 : -2, "open", 1, n);
            } else {
                both.due(1, "answer", 1, n);
                both.due(1000L + n, "text", 1);
                both.due(n, "count", 1, 3);
                both.due(n + 1, "count", 1, 1);
                for (int i = n - 1; i >= 0; i--) {
                    both.due(true, "keeps", 1, i);
                    openAll(both, 1, i);
                    both.due(i, "count", 1, 3);
                }
            }
            both.look(1);
        }
    }

    private static void anyOrder() {
        Both both = Scenes.answered("any order", 28);
        Scenes.send(both, 0, 6);
        both.due(0, "open", 1, 4);
        both.due(5, "count", 1, 1);
        both.due(3, "count", 1, 3);
        for (int letter = 0; letter <= 6; letter++) {
            both.due(letter >= 1 && letter <= 3, "keeps", 1, letter);
        }
        both.due(-1, "open", 1, 0);
        openAll(both, 1, 2, 6, 1, 5, 3);
        both.due(0, "count", 1, 3);
        both.due(7, "count", 1, 1);
        both.look(1);
    }

    private static void sixKept() {
        Both both = Scenes.answered("six kept", 29);
        Scenes.send(both, 0, 9);
        both.due(-2, "open", 1, 9);
        both.due(-2, "open", 1, 8);
        both.due(1, "count", 1, 1);
        both.due(0, "count", 1, 3);
        both.due(0, "open", 1, 7);
        both.due(6, "count", 1, 3);
        both.due(-2, "open", 1, 9);
        both.due(0, "open", 1, 8);
        openAll(both, 1, 3);
        both.due(5, "count", 1, 3);
        Scenes.send(both, 0, 2);
        both.due(0, "open", 1, 10);
        both.due(6, "count", 1, 3);
        both.due(true, "keeps", 1, 9);
        openAll(both, 1, 11, 9, 6, 1, 5, 2, 4);
        both.due(0, "count", 1, 3);
        both.look(1);
    }

    private static void keptOverATurn() {
        Both both = Scenes.answered("kept over a turn", 30);
        Scenes.send(both, 0, 3);
        openAll(both, 1, 1);
        Scenes.send(both, 1, 2);
        openAll(both, 0, 5);
        both.due(1, "count", 0, 3);
        both.due(true, "keeps", 0, 4);
        both.due(4, "count", 0, 2);
        both.due(0, "count", 0, 0);
        Scenes.send(both, 0, 3);
        both.due(4, "wire", 6, 32);
        both.due(0, "wire", 6, 33);
        both.due(0, "open", 1, 7);
        both.due(3, "count", 1, 3);
        both.due(2, "count", 1, 1);
        both.due(2, "count", 1, 2);
        for (int letter : new int[] {2, 3, 6}) {
            both.due(true, "keeps", 1, letter);
        }
        both.due(false, "keeps", 1, 8);
        both.look(1);
        openFormer(both, 1, 3);
        openAll(both, 1, 6, 8);
        openFormer(both, 1, 2);
        openAll(both, 0, 4);
        both.look(0);
        both.look(1);
    }

    private static void farOverATurn() {
        for (int missed = 4; missed <= 6; missed++) {
            Both both = Scenes.answered("far over a turn " + missed, 31);
            Scenes.send(both, 0, missed);
            Scenes.send(both, 1, 1);
            both.due(0, "open", 0, missed + 1);
            Scenes.send(both, 0, 4);
            // missed letters of the former chain and those before this one are to be kept.
            for (int n = 3; n >= 0; n--) {
                int letter = missed + 2 + n;
                boolean far = missed + n > 6;
                String before = far ? both.look(1) : "";
                both.due(far ? -2 : 0, "open", 1, letter);
                if (!far) {
                    both.due(missed + n, "count", 1, 3);
                    break;
                }
                Both.hold("far changes nothing", both.look(1), before);
            }
            both.look(1);
        }
    }

    private static void talkTurnsRound() {
        Both both = Scenes.answered("the talk turns round", 32);
        for (int round = 0; round < 10; round++) {
            int end = 1 - (round & 1);
            int first = both.number("letters");
            Scenes.send(both, end, 1 + round % 3);
            for (int i = 0; i < 1 + round % 3; i++) {
                openAll(both, 1 - end, first + i);
            }
            both.due(0, "count", 1 - end, 0);
            both.due(1 + round % 3, "count", 1 - end, 1);
        }
        both.look(0);
        both.look(1);
        // Both write before they read: each opens by a chain that the other turned from.
        Scenes.send(both, 0, 1);
        Scenes.send(both, 1, 1);
        int last = both.number("letters") - 1;
        openAll(both, 0, last);
        openAll(both, 1, last - 1);
        both.look(0);
        both.look(1);
    }

    private static void everyByteSpoiled() {
        for (int from = 0; from < 84; from += 21) {
            Both both = Scenes.begun("spoiled from " + from, 33, 1);
            for (int at = from; at < from + 21; at++) {
                int letter = Scenes.spoil(both, 0, at);
                both.due(-3, "answer", 1, letter);
            }
            both.due(1, "ends");
            both.due(1, "answer", 1, 0);
        }
        for (int from = 0; from < 50; from += 25) {
            Both both = Scenes.answered("opened, spoiled from " + from, 34);
            Scenes.send(both, 0, 1);
            for (int at = from; at < from + 25; at++) {
                both.due(at == 33 ? -1 : -3, "open", 1, Scenes.spoil(both, 1, at));
            }
            both.look(1);
            openAll(both, 1, 1);
        }
    }

    private static void spoiledLettersChangeNothing() {
        Both both = Scenes.answered("spoiled changes nothing", 35);
        Scenes.send(both, 1, 3);
        String before = both.look(0);
        both.due(-3, "open", 0, Scenes.spoil(both, 3, 44));
        both.due(-3, "open", 0, Scenes.spoil(both, 3, 5));
        both.due(-2, "open", 0, both.number("forge", 3, 33, 7));
        Both.hold("wrong and far change nothing", both.look(0), before);
        openAll(both, 0, 2);
        before = both.look(0);
        both.due(-1, "open", 0, 2);
        both.due(-3, "open", 0, both.number("forge", 3, 33, 4));
        both.due(-2, "open", 0, both.number("forge", 3, 33, 255));
        Both.hold("old, wrong and far change nothing", both.look(0), before);
        openAll(both, 0, 3, 1);
        // No secret was made: the next turn's is the model's.
        Scenes.send(both, 0, 1);
        int last = both.number("letters") - 1;
        openAll(both, 1, last);
        both.look(0);
        both.look(1);
    }

    private static void spoiledKeptLetter() {
        Both both = Scenes.answered("a kept one spoiled", 36);
        Scenes.send(both, 0, 3);
        both.due(0, "open", 1, 3);
        both.due(2, "count", 1, 3);
        int wrong = Scenes.spoil(both, 1, 47);
        both.due(true, "keeps", 1, wrong);
        both.due(-3, "open", 1, wrong);
        both.due(true, "keeps", 1, 1);
        both.due(1003, "text", 1);
        // BEFORE is not what a key is kept for, but the mark covers it.
        int before = Scenes.spoil(both, 1, 32);
        both.due(true, "keeps", 1, before);
        both.due(-3, "open", 1, before);
        int other = Scenes.spoil(both, 1, 30);
        both.due(false, "keeps", 1, other);
        both.due(false, "keeps", 1, both.number("forge", 1, 33, 9));
        both.due(true, "keeps", 1, both.number("forge", 1, 33, 2));
        openAll(both, 1, 1);
        both.due(false, "keeps", 1, wrong);
        both.due(-1, "open", 1, wrong);
        openAll(both, 1, 2);
    }

    private static void numbersSpoiled() {
        Both both = Scenes.answered("numbers spoiled", 37);
        Scenes.send(both, 0, 2);
        Scenes.send(both, 1, 1);
        openAll(both, 0, 3);
        Scenes.send(both, 0, 1);
        // A new chain: BEFORE tells how many keys of the former one are to be kept.
        for (int told : new int[] {0, 1, 2, 6, 7, 8, 128, 255}) {
            both.due(told > 7 ? -2 : -3, "open", 1, both.number("forge", 4, 32, told));
        }
        for (int told : new int[] {1, 4, 5, 128, 255}) {
            both.due(told > 4 ? -2 : -3, "open", 1, both.number("forge", 4, 33, told));
        }
        both.due(3, "wire", 4, 32);
        openAll(both, 1, 4);
        both.due(2, "count", 1, 3);
        // By the chain that stands BEFORE does not count but for the mark.
        Scenes.send(both, 0, 1);
        int last = both.number("letters") - 1;
        both.due(-3, "open", 1, both.number("forge", last, 32, 255));
        openAll(both, 1, last);
        openFormer(both, 1, 2, 1);
        both.look(1);
    }

    private static void lettersOfOthers() {
        Both both = Scenes.answered("letters of others", 38);
        both.due(2, "begin", 2, 1);
        Scenes.send(both, 2, 1);
        Scenes.send(both, 1, 1);
        both.due(-3, "open", 0, 0);
        both.due(-3, "open", 1, 1);
        both.due(-3, "open", 2, 2);
        both.due(-3, "open", 2, 1);
        both.due(-3, "open", 1, 2);
        both.due(3, "answer", 1, 1);
        both.due(-3, "open", 3, 0);
        openAll(both, 0, 2);
        for (int end = 0; end < 4; end++) {
            both.look(end);
        }
    }

    private static void keyOfZero() {
        // A point from which every agreement is 0: reckoned as any other one, and not the letter's key.
        Both both = Scenes.answered("a key of zero", 39);
        Scenes.send(both, 1, 1);
        int letter = 1;
        for (int at = 0; at < 32; at++) {
            letter = both.number("forge", letter, at, 0);
        }
        String before = both.look(0);
        both.due(-3, "open", 0, letter);
        both.due(-3, "open", 1, letter);
        Both.hold("a key of zero changes nothing", both.look(0), before);
        openAll(both, 0, 1);
    }

    private static void severalEndsForOneLetter() {
        Both both = Scenes.answered("several ends for one letter", 40);
        both.due(2, "answer", 1, 0);
        Both.hold("each end turns by a secret of its own",
            both.call("word", 1, 3, 0).equals(both.call("word", 2, 3, 0)) ? "same" : "other", "other");
        Scenes.send(both, 1, 1);
        Scenes.send(both, 2, 1);
        openAll(both, 0, 1);
        // The other end's letter came by a chain that went off before.
        both.due(-3, "open", 0, 2);
        Scenes.send(both, 0, 1);
        both.due(-3, "open", 2, 3);
        openAll(both, 1, 3);
        for (int end = 0; end < 3; end++) {
            both.look(end);
        }
    }

    private static void otherNumbersOfCountAndWord() {
        Both both = Scenes.answered("other numbers", 41);
        for (int what : new int[] {-1, 4, 5, 100, Integer.MIN_VALUE, Integer.MAX_VALUE}) {
            both.due(-1, "count", 0, what);
            both.due(what == 4 ? both.call("word", 0, 4, 1) : "0", "word", 0, what, 1);
            both.due(Both.INDEX, "word", 0, what, 4);
            both.due(Both.INDEX, "word", 0, what, -1);
        }
        for (int part : new int[] {-1, 4, 8, Integer.MIN_VALUE, Integer.MAX_VALUE}) {
            for (int what = 0; what < 6; what++) {
                both.due(Both.INDEX, "word", 1, what, part);
            }
        }
    }
}
