/**
 * The edges of TO OPEN and in promises 13, 14 and 20 to 22: each run bears the sentence that it
 * holds. Letters that no end would send are made up with the right mark (see Both.craft).
 */
public final class EdgesOfOpeningTest {
    private static final int OPENED = Scenes.OPENED, OLD = Scenes.OLD, FAR = Scenes.FAR, WRONG = Scenes.WRONG;
    private static final int BEFORE = Scenes.BEFORE, NUMBER = Scenes.NUMBER, SEALED = Scenes.SEALED, MARK = Scenes.MARK;

    public static void main(String[] args) {
        keptKeyIsTakenOut();
        keptKeyGoesBeforeOld();
        keptKeyOfAFormerChain();
        keptKeysOfThreeChains();
        keptKeysOfHighNumbers();
        oldBelowCome();
        comeAndOneAbove();
        comeBecomesNAndOne();
        sixAheadAndSeven();
        sixWithThoseThatAreKept();
        sixKeptAndTheNextOne();
        thisLettersKeyIsNotKept();
        beforeBelowCome();
        beforeAtAndAboveCome();
        beforeWithoutAChain();
        numberWithoutAChain();
        sixOverATurn();
        highestNumbers();
        ratchetKeyWithoutAChain();
        formerRatchetKeyAgain();
        oldBeforeWrong();
        farBeforeWrong();
        beforeByTheChainThatStands();
        everyBitOfTheMark();
        everyByteOfTheHeaderAndTheSealed();
        tailDoesNotCount();
        ownLetters();
        ratchetKeyOfZero();
        ratchetKeyBeyondP();
        oldIsAsItWas();
        farIsAsItWas();
        wrongIsAsItWas();
        wrongOfAKeptKey();
        wrongAtANewChain();
        turnsAtANewChainAlone();
        textWhenNoneWasOpened();
        textOfTheLastOne();
        countsAtFirstAndLast();
        countsOfOtherNumbers();
        keepsByTheHeader();
        keepsOfThisEndAlone();
        wordsThatAreNone();
        wordsOfOtherNumbers();
        Both.end();
    }

    /** End 1 opened n letters of the chain that stands, n at least 1; they are 0 .. n - 1. */
    private static Both come(String name, int n) {
        Both both = Scenes.answered(name, 200 + n);
        Scenes.send(both, 0, n - 1);
        for (int letter = 1; letter < n; letter++) {
            both.due(OPENED, "open", 1, letter);
        }
        both.due(n, "count", 1, 1);
        both.due(0, "count", 1, 3);
        return both;
    }

    /** The same, and end 0 turned by end 1's letter and sent one by its new chain, which is the last letter. */
    private static Both turned(String name, int n) {
        Both both = come(name, n);
        Scenes.send(both, 1, 1);
        both.due(OPENED, "open", 0, n);
        Scenes.send(both, 0, 1);
        both.due(n, "wire", n + 1, BEFORE);
        return both;
    }

    private static void keptKeyIsTakenOut() {
        Both both = come("if a key is kept for k and n, it is the letter key, and is not kept any more", 1);
        Scenes.send(both, 0, 3);
        both.due(OPENED, "open", 1, 3);
        both.due(2, "count", 1, 3);
        for (int letter = 1; letter <= 2; letter++) {
            String chain = both.call("word", 1, 2, 0);
            both.due(true, "keeps", 1, letter);
            both.due(OPENED, "open", 1, letter);
            both.due(1000L + letter, "text", 1);
            both.due(false, "keeps", 1, letter);
            both.due(2 - letter, "count", 1, 3);
            both.due(4, "count", 1, 1);
            both.due(chain, "word", 1, 2, 0);
        }
    }

    private static void keptKeyGoesBeforeOld() {
        Both both = come("a kept one is below COME, and yet not OLD; the second time it is", 1);
        Scenes.send(both, 0, 2);
        both.due(OPENED, "open", 1, 2);
        both.due(OPENED, "open", 1, 1);
        both.refuseAlone(OLD, "open", 1, 1);
        both.due(1001, "text", 1);
    }

    private static void keptKeyOfAFormerChain() {
        Both both = come("a key kept for a former ratchet key: no turn", 1);
        Scenes.send(both, 0, 2);
        Scenes.send(both, 1, 1);
        both.due(OPENED, "open", 0, 3);
        Scenes.send(both, 0, 1);
        both.due(OPENED, "open", 1, 4);
        both.due(2, "count", 1, 3);
        String own = both.call("word", 1, 3, 0), root = both.call("word", 1, 0, 0), other = both.call("word", 1, 4, 0);
        both.due(OPENED, "open", 1, 1);
        both.due(1001, "text", 1);
        both.due(own, "word", 1, 3, 0);
        both.due(root, "word", 1, 0, 0);
        both.due(other, "word", 1, 4, 0);
        both.due(1, "count", 1, 1);
        both.due(true, "keeps", 1, 2);
        both.due(OPENED, "open", 1, 2);
        both.due(0, "count", 1, 3);
    }

    private static void keptKeysOfThreeChains() {
        // Two keys of each of three chains are kept, and taken out in several orders.
        int[][] orders = {{0, 1, 2, 3, 4, 5}, {5, 4, 3, 2, 1, 0}, {2, 5, 0, 3, 1, 4}, {3, 0, 4, 1, 5, 2}};
        for (int[] order : orders) {
            Both both = come("six kept, each with a ratchet key and a number", 1);
            Scenes.send(both, 0, 2);
            for (int turn = 0; turn < 2; turn++) {
                Scenes.send(both, 1, 1);
                both.due(OPENED, "open", 0, both.number("letters") - 1);
                Scenes.send(both, 0, 3);
                both.due(OPENED, "open", 1, both.number("letters") - 1);
            }
            both.due(6, "count", 1, 3);
            int[] kept = {1, 2, 4, 5, 8, 9};
            for (int i = 0; i < 6; i++) {
                both.due(OPENED, "open", 1, kept[order[i]]);
                both.due(1000L + kept[order[i]], "text", 1);
                for (int j = 0; j < 6; j++) {
                    both.due(j > i, "keeps", 1, kept[order[j]]);
                }
                both.due(5 - i, "count", 1, 3);
            }
        }
    }

    private static void keptKeysOfHighNumbers() {
        // The whole of the longest chain but for its last letter, in sevens from behind.
        Both both = come("six kept, with numbers up to 45", 1);
        Scenes.send(both, 0, 46);
        for (int from = 1; from + 6 < 47; from += 7) {
            for (int letter = from + 6; letter >= from; letter--) {
                both.due(letter < from + 6, "keeps", 1, letter);
                both.due(OPENED, "open", 1, letter);
                both.due(1000L + letter, "text", 1);
            }
            both.due(from + 7, "count", 1, 1);
            both.due(0, "count", 1, 3);
        }
        both.due(43, "count", 1, 1);
        both.due(OPENED, "open", 1, 46);
        both.due(true, "keeps", 1, 45);
        both.due(false, "keeps", 1, 13);
        both.due(OPENED, "open", 1, 45);
        both.due(1045, "text", 1);
    }

    private static void oldBelowCome() {
        for (int n = 1; n <= 3; n++) {
            Both both = come("OLD if n is below COME, which is " + n, n);
            for (int letter = 0; letter < n; letter++) {
                both.refuseAlone(OLD, "open", 1, letter);
            }
            // The first that is not below it.
            Scenes.send(both, 0, 1);
            both.due(n, "wire", n, NUMBER);
            both.due(OPENED, "open", 1, n);
            both.refuseAlone(OLD, "open", 1, n);
        }
    }

    private static void comeAndOneAbove() {
        Both both = come("the letter keys for COME .. n - 1: none for n = COME", 2);
        Scenes.send(both, 0, 1);
        both.due(OPENED, "open", 1, 2);
        both.due(0, "count", 1, 3);
        Both one = come("the letter keys for COME .. n - 1: one for n = COME + 1", 2);
        Scenes.send(one, 0, 3);
        one.due(OPENED, "open", 1, 3);
        one.due(1, "count", 1, 3);
        for (int letter = 0; letter < 5; letter++) {
            one.due(letter == 2, "keeps", 1, letter);
        }
    }

    private static void comeBecomesNAndOne() {
        Both both = come("COME becomes n + 1", 1);
        Scenes.send(both, 0, 6);
        int[] open = {2, 1, 3, 6, 4, 5};
        int[] come = {3, 3, 4, 7, 7, 7};
        int[] kept = {1, 0, 0, 2, 1, 0};
        for (int i = 0; i < open.length; i++) {
            both.due(OPENED, "open", 1, open[i]);
            both.due(come[i], "count", 1, 1);
            both.due(kept[i], "count", 1, 3);
        }
    }

    private static void sixAheadAndSeven() {
        for (int n = 1; n <= 3; n++) {
            Both both = come("FAR if more than six keys would be kept then", n);
            Scenes.send(both, 0, 9);
            both.refuseAlone(FAR, "open", 1, n + 8);
            both.refuseAlone(FAR, "open", 1, n + 7);
            both.due(OPENED, "open", 1, n + 6);
            both.due(6, "count", 1, 3);
            both.due(n + 7, "count", 1, 1);
            for (int letter = 0; letter < n + 9; letter++) {
                both.due(letter >= n && letter < n + 6, "keeps", 1, letter);
            }
        }
    }

    private static void sixWithThoseThatAreKept() {
        for (int kept = 0; kept <= 6; kept++) {
            Both both = come("more than six, with " + kept + " that are kept", 1);
            Scenes.send(both, 0, kept + 1 + 8);
            both.due(OPENED, "open", 1, kept + 1);
            both.due(kept, "count", 1, 3);
            // COME is kept + 2 now; six in all are reached by 6 - kept more.
            both.refuseAlone(FAR, "open", 1, kept + 2 + 7 - kept);
            both.due(OPENED, "open", 1, kept + 2 + 6 - kept);
            both.due(6, "count", 1, 3);
        }
    }

    private static void sixKeptAndTheNextOne() {
        Both both = come("six are kept: the next one opens, and each that is kept makes room", 1);
        Scenes.send(both, 0, 11);
        both.due(OPENED, "open", 1, 7);
        both.due(6, "count", 1, 3);
        both.refuseAlone(FAR, "open", 1, 9);
        both.due(OPENED, "open", 1, 8);
        both.due(6, "count", 1, 3);
        both.due(OPENED, "open", 1, 1);
        both.due(5, "count", 1, 3);
        both.refuseAlone(FAR, "open", 1, 11);
        both.due(OPENED, "open", 1, 10);
        both.due(6, "count", 1, 3);
        for (int letter : new int[] {6, 2, 9, 4, 3, 5}) {
            both.due(true, "keeps", 1, letter);
            both.due(OPENED, "open", 1, letter);
            both.due(1000L + letter, "text", 1);
        }
        both.due(0, "count", 1, 3);
    }

    private static void thisLettersKeyIsNotKept() {
        Both both = come("this letter's is not", 1);
        Scenes.send(both, 0, 7);
        both.due(OPENED, "open", 1, 7);
        both.due(false, "keeps", 1, 7);
        both.due(6, "count", 1, 3);
        both.refuseAlone(OLD, "open", 1, 7);
    }

    private static void beforeBelowCome() {
        for (int b = 0; b < 3; b++) {
            Both both = turned("keys for COME .. b - 1: none for b below COME, b = " + b, 3);
            int letter = both.craft(1, 4, BEFORE, b);
            both.due(OPENED, "open", 1, letter);
            both.due(0, "count", 1, 3);
            both.due(1, "count", 1, 1);
            Both far = turned("a b below COME makes no room, b = " + b, 3);
            far.refuseAlone(FAR, "open", 1, far.change(4, BEFORE, b, NUMBER, 7));
            far.refuseAlone(WRONG, "open", 1, far.change(4, BEFORE, b, NUMBER, 6));
            far.due(OPENED, "open", 1, far.craft(1, 4, BEFORE, b, NUMBER, 6));
            far.due(6, "count", 1, 3);
            far.due(7, "count", 1, 1);
        }
    }

    private static void beforeAtAndAboveCome() {
        for (int above = 0; above <= 6; above++) {
            Both both = turned("keys for COME .. b - 1, b = COME + " + above, 3);
            int letter = both.craft(1, 4, BEFORE, 3 + above);
            both.due(OPENED, "open", 1, letter);
            both.due(above, "count", 1, 3);
            both.due(1, "count", 1, 1);
            // Those that are kept have the former ratchet key, and the numbers COME .. b - 1.
            for (int n = 2; n <= 10; n++) {
                both.due(n >= 3 && n < 3 + above, "keeps", 1, both.change(0, NUMBER, n));
            }
        }
        Both far = turned("keys for COME .. b - 1, b = COME + 7", 3);
        far.refuseAlone(FAR, "open", 1, far.change(4, BEFORE, 10));
        far.refuseAlone(WRONG, "open", 1, far.change(4, BEFORE, 9));
    }

    private static void beforeWithoutAChain() {
        for (int b : new int[] {1, 6, 7, 255}) {
            Both both = Scenes.answered("if there is a receiving chain; there is none yet, b = " + b, 230);
            Scenes.send(both, 1, 1);
            both.refuseAlone(WRONG, "open", 0, both.change(1, BEFORE, b));
            both.due(OPENED, "open", 0, both.craft(0, 1, BEFORE, b));
            both.due(0, "count", 0, 3);
            both.due(1, "count", 0, 1);
            both.look(0);
        }
    }

    private static void numberWithoutAChain() {
        Both both = Scenes.answered("the first letter of an end that began may be number 6, not 7", 231);
        Scenes.send(both, 1, 9);
        both.refuseAlone(FAR, "open", 0, 9);
        both.refuseAlone(FAR, "open", 0, 8);
        both.due(OPENED, "open", 0, 7);
        both.due(6, "count", 0, 3);
        both.due(7, "count", 0, 1);
        both.due(1007, "text", 0);
    }

    private static void sixOverATurn() {
        for (int kept = 0; kept <= 6; kept++) {
            for (int above = 0; kept + above <= 6; above++) {
                int n = 6 - kept - above;
                Both both = come(kept + " are kept, " + above + " by b and " + n + " by n", 1);
                Scenes.send(both, 0, kept + 1 + above);
                both.due(OPENED, "open", 1, kept + 1);
                both.due(kept, "count", 1, 3);
                Scenes.send(both, 1, 1);
                both.due(OPENED, "open", 0, kept + above + 2);
                Scenes.send(both, 0, n + 2);
                both.due(kept + 2 + above, "wire", kept + above + 3, BEFORE);
                both.refuse(FAR, "open", 1, kept + above + 4 + n);
                if (n == 0 || above == 0 || kept == 0) {
                    both.unchanged();
                }
                both.due(OPENED, "open", 1, kept + above + 3 + n);
                both.due(6, "count", 1, 3);
                both.due(n + 1, "count", 1, 1);
            }
        }
    }

    private static void highestNumbers() {
        Both both = turned("n and b of 255", 2);
        both.refuse(FAR, "open", 1, both.change(3, NUMBER, 255));
        both.refuse(FAR, "open", 1, both.change(3, BEFORE, 255));
        both.refuse(FAR, "open", 1, both.change(3, BEFORE, 255, NUMBER, 255));
        both.refuse(FAR, "open", 1, both.change(3, BEFORE, 128));
        both.refuse(FAR, "open", 1, both.change(3, NUMBER, 128));
        both.refuse(FAR, "open", 1, both.change(1, NUMBER, 255));
        both.refuse(FAR, "open", 1, both.change(1, NUMBER, 128));
        both.unchanged();
        // b is 252 above COME and n 4, 256 together, which a byte would forget.
        both.refuseAlone(FAR, "open", 1, both.change(3, BEFORE, 254, NUMBER, 4));
        both.due(OPENED, "open", 1, 3);
    }

    private static void ratchetKeyWithoutAChain() {
        // At the end that began the other's ratchet key is the prekey, and no chain is there for it.
        Both both = Scenes.answered("k is the other's ratchet key, but there is no receiving chain", 232);
        Scenes.send(both, 1, 1);
        int letter = 1;
        for (int at = 0; at < 32; at++) {
            long part = Long.parseLong(both.call("word", 0, 4, at / 8));
            letter = both.number("forge", letter, at, (int) (part >>> 8 * (at % 8) & 255));
        }
        String prekey = both.call("word", 0, 4, 0), own = both.call("word", 0, 3, 0);
        both.refuseAlone(WRONG, "open", 0, letter);
        both.refuseAlone(FAR, "open", 0, both.change(letter, NUMBER, 7));
        both.due(OPENED, "open", 0, both.craft(0, letter));
        both.due(prekey, "word", 0, 4, 0);
        both.due(1, "count", 0, 1);
        Both.hold("it turned", "" + both.call("word", 0, 3, 0).equals(own), "false");
        both.look(0);
    }

    private static void formerRatchetKeyAgain() {
        // Not kept, and not the other's ratchet key now: it is taken for a new one.
        Both both = turned("k was the other's ratchet key once", 2);
        both.due(OPENED, "open", 1, 3);
        both.refuseAlone(WRONG, "open", 1, 0);
        both.refuseAlone(WRONG, "open", 1, 1);
        both.refuseAlone(FAR, "open", 1, both.change(1, NUMBER, 7));
        both.refuseAlone(WRONG, "open", 1, both.change(1, NUMBER, 6));
        int again = both.craft(1, 1);
        both.due(OPENED, "open", 1, again);
        both.due(2, "count", 1, 1);
        both.due(1, "count", 1, 3);
        both.look(1);
    }

    private static void oldBeforeWrong() {
        Both both = come("OLD comes before WRONG", 2);
        both.refuse(OLD, "open", 1, Scenes.spoil(both, 1, MARK));
        both.refuse(OLD, "open", 1, both.change(1, MARK, 0, MARK + 1, 0, MARK + 7, 0));
        both.refuse(OLD, "open", 1, Scenes.spoil(both, 1, SEALED));
        both.refuse(OLD, "open", 1, both.change(1, BEFORE, 255));
        both.unchanged();
    }

    private static void farBeforeWrong() {
        Both both = turned("FAR comes before WRONG", 2);
        both.refuse(FAR, "open", 1, both.change(3, NUMBER, 7, MARK, 0, MARK + 1, 0));
        both.refuse(FAR, "open", 1, both.change(3, BEFORE, 9, SEALED, 0));
        both.refuse(WRONG, "open", 1, both.change(3, NUMBER, 6, MARK, 0, MARK + 1, 0));
        both.refuse(WRONG, "open", 1, both.change(3, BEFORE, 8, SEALED, 0));
        both.unchanged();
    }

    private static void beforeByTheChainThatStands() {
        Both both = come("b does not count by the chain that stands", 2);
        Scenes.send(both, 0, 1);
        both.refuseAlone(WRONG, "open", 1, both.change(2, BEFORE, 255));
        both.due(OPENED, "open", 1, both.craft(1, 2, BEFORE, 255));
        both.due(0, "count", 1, 3);
        both.due(3, "count", 1, 1);
    }

    private static void everyBitOfTheMark() {
        for (int half = 0; half < 2; half++) {
            Both both = come("WRONG if the mark is not that which the letter key makes", 1);
            Scenes.send(both, 0, 1);
            for (int at = MARK + 4 * half; at < MARK + 4 * half + 4; at++) {
                for (int bit = 0; bit < 8; bit++) {
                    both.refuse(WRONG, "open", 1, both.change(1, at, both.number("wire", 1, at) ^ 1 << bit));
                }
            }
            both.unchanged();
            both.due(OPENED, "open", 1, 1);
        }
    }

    private static void everyByteOfTheHeaderAndTheSealed() {
        Both both = come("the mark is of the header and the sealed bytes", 1);
        Scenes.send(both, 0, 1);
        for (int at = 0; at < MARK; at++) {
            if (at != NUMBER) {
                both.refuse(WRONG, "open", 1, both.change(1, at, both.number("wire", 1, at) ^ 128));
            }
        }
        both.refuse(WRONG, "open", 1, both.change(1, NUMBER, 2));
        both.refuse(OLD, "open", 1, both.change(1, NUMBER, 0));
        both.unchanged();
        both.due(OPENED, "open", 1, 1);
    }

    private static void tailDoesNotCount() {
        Both both = come("what stands behind the 50 bytes is not looked at by an end that is there", 1);
        Scenes.send(both, 0, 3);
        both.due(84, "length", 1);
        both.due(OPENED, "open", 1, both.change(1, Scenes.BEGINNER, 255));
        both.due(OPENED, "open", 1, both.change(2, Scenes.ONE_TIME, 0));
        both.due(OPENED, "open", 1, both.change(3, Scenes.SHOWN, 0, 83, 255));
        both.due(1003, "text", 1);
        both.due(0, "person", 1, true);
    }

    private static void ownLetters() {
        Both both = come("an end's own letter", 1);
        both.refuseAlone(WRONG, "open", 0, 0);
        Scenes.send(both, 1, 1);
        both.refuseAlone(WRONG, "open", 1, 1);
        both.due(OPENED, "open", 0, 1);
        Scenes.send(both, 0, 1);
        both.refuseAlone(WRONG, "open", 0, 2);
    }

    private static void ratchetKeyOfZero() {
        Both both = come("a key of 0 in the header: the agreement is 0, and is as good as another", 1);
        Scenes.send(both, 0, 1);
        int letter = 1;
        for (int at = 0; at < 32; at++) {
            letter = both.number("forge", letter, at, 0);
        }
        both.refuseAlone(WRONG, "open", 1, letter);
        both.due(OPENED, "open", 1, both.craft(1, letter, BEFORE, 1));
        for (int part = 0; part < 4; part++) {
            both.due(0, "word", 1, 4, part);
        }
        both.look(1);
    }

    private static void ratchetKeyBeyondP() {
        // 2^256 - 1 counts as 18 in the agreement, and yet is the other's ratchet key as it was told.
        Both both = come("a key beyond p in the header stays as it was told", 1);
        Scenes.send(both, 0, 1);
        int letter = 1;
        for (int at = 0; at < 32; at++) {
            letter = both.number("forge", letter, at, 255);
        }
        both.due(OPENED, "open", 1, both.craft(1, letter, BEFORE, 1));
        for (int part = 0; part < 4; part++) {
            both.due(-1, "word", 1, 4, part);
        }
        // The same number in another row of bytes is another key.
        both.refuseAlone(WRONG, "open", 1, both.change(letter, 31, 127));
        both.look(1);
    }

    private static void oldIsAsItWas() {
        Both both = come("an end that answers OLD is as it was", 1);
        Scenes.send(both, 0, 4);
        both.due(OPENED, "open", 1, 3);
        both.due(OPENED, "open", 1, 1);
        for (int letter : new int[] {0, 1, 3}) {
            both.refuseAlone(OLD, "open", 1, letter);
            both.due(1001, "text", 1);
        }
        both.due(1, "count", 1, 3);
        both.due(4, "count", 1, 1);
        both.due(OPENED, "open", 1, 2);
        both.due(OPENED, "open", 1, 4);
    }

    private static void farIsAsItWas() {
        Both both = turned("an end that answers FAR is as it was", 2);
        Scenes.send(both, 0, 8);
        both.refuseAlone(FAR, "open", 1, 10);
        both.due(1001, "text", 1);
        both.due(OPENED, "open", 1, 4);
        both.due(1, "count", 1, 3);
        both.refuseAlone(FAR, "open", 1, 11);
        both.due(1004, "text", 1);
        both.due(2, "count", 1, 1);
        both.due(OPENED, "open", 1, 10);
        both.due(6, "count", 1, 3);
        both.due(OPENED, "open", 1, 11);
        both.due(OPENED, "open", 1, 3);
    }

    private static void wrongIsAsItWas() {
        Both both = come("an end that answers WRONG is as it was", 1);
        Scenes.send(both, 0, 4);
        int wrong = Scenes.spoil(both, 4, MARK + 7);
        both.refuseAlone(WRONG, "open", 1, wrong);
        both.due(1000, "text", 1);
        both.due(1, "count", 1, 1);
        both.due(0, "count", 1, 3);
        both.due(false, "keeps", 1, 1);
        both.due(OPENED, "open", 1, 4);
        both.refuseAlone(OLD, "open", 1, wrong);
        for (int letter = 1; letter <= 3; letter++) {
            both.due(OPENED, "open", 1, letter);
        }
    }

    private static void wrongOfAKeptKey() {
        Both both = come("a key that makes another mark is kept still", 1);
        Scenes.send(both, 0, 7);
        both.due(OPENED, "open", 1, 7);
        for (int letter = 1; letter <= 6; letter++) {
            int wrong = Scenes.spoil(both, letter, letter == 3 ? BEFORE : MARK);
            both.due(true, "keeps", 1, wrong);
            both.refuseAlone(WRONG, "open", 1, wrong);
            both.due(6, "count", 1, 3);
        }
        for (int letter = 1; letter <= 6; letter++) {
            both.due(OPENED, "open", 1, letter);
            both.due(1000L + letter, "text", 1);
        }
    }

    private static void wrongAtANewChain() {
        Both both = turned("WRONG at a new chain: no turn, no key of the former chain kept", 3);
        Scenes.send(both, 0, 2);
        both.refuseAlone(WRONG, "open", 1, Scenes.spoil(both, 6, MARK));
        both.refuseAlone(WRONG, "open", 1, both.change(6, BEFORE, 5));
        both.refuseAlone(WRONG, "open", 1, Scenes.spoil(both, 6, 0));
        both.due(0, "count", 1, 3);
        both.due(3, "count", 1, 1);
        both.due(1, "count", 1, 0);
        both.due(OPENED, "open", 1, 6);
        both.due(2, "count", 1, 3);
        both.due(3, "count", 1, 1);
        both.due(0, "count", 1, 0);
        both.due(1, "count", 1, 2);
    }

    private static void turnsAtANewChainAlone() {
        Both both = turned("in the end the end turns: by the first letter of a new chain, whichever it is", 1);
        Scenes.send(both, 0, 2);
        String own = both.call("word", 1, 3, 0), sending = both.call("word", 1, 1, 0);
        both.due(OPENED, "open", 1, 3);
        String turnedTo = both.call("word", 1, 3, 0);
        Both.hold("another own key", "" + turnedTo.equals(own), "false");
        Both.hold("another sending chain", "" + both.call("word", 1, 1, 0).equals(sending), "false");
        String root = both.call("word", 1, 0, 0);
        for (int letter : new int[] {4, 2}) {
            both.due(OPENED, "open", 1, letter);
            both.due(turnedTo, "word", 1, 3, 0);
            both.due(root, "word", 1, 0, 0);
        }
    }

    private static void textWhenNoneWasOpened() {
        Both both = Scenes.begun("0 when it opened none", 233, 0);
        both.due(0, "text", 0);
        both.refuse(WRONG, "open", 0, 0);
        both.unchanged();
        both.due(0, "text", 0);
        both.due(1, "answer", 1, 0);
        both.due(0, "text", 0);
        both.due(1000, "text", 1);
        Scenes.send(both, 1, 1);
        both.due(0, "text", 0);
        both.due(OPENED, "open", 0, 1);
        both.due(1001, "text", 0);
        both.due(1000, "text", 1);
    }

    private static void textOfTheLastOne() {
        Both both = come("the eight bytes that an end opened last, not the last that was sent", 1);
        Scenes.send(both, 0, 3);
        for (int letter : new int[] {3, 1, 2}) {
            both.due(OPENED, "open", 1, letter);
            both.due(1000L + letter, "text", 1);
        }
        for (int letter = 0; letter < 4; letter++) {
            both.refuse(OLD, "open", 1, letter);
            both.due(1002, "text", 1);
        }
        both.unchanged();
        // A text of 0 is a text.
        both.due(4, "send", 0, 0L);
        both.due(OPENED, "open", 1, 4);
        both.due(0, "text", 1);
    }

    private static void countsAtFirstAndLast() {
        Both both = new Both("SENT, COME, BEFORE, how many keys it keeps: 47 sent and come at most", 234);
        both.due(0, "begin", 0, 1);
        for (int what = 0; what < 4; what++) {
            both.due(0, "count", 0, what);
        }
        Scenes.send(both, 0, 1);
        both.due(1, "answer", 1, 0);
        int[] first = {0, 1, 0, 0};
        for (int what = 0; what < 4; what++) {
            both.due(first[what], "count", 1, what);
        }
        for (int letter = 1; letter < 47; letter++) {
            Scenes.send(both, 0, 1);
            both.due(OPENED, "open", 1, letter);
        }
        both.due(47, "count", 0, 0);
        both.due(47, "count", 1, 1);
        Scenes.send(both, 1, 1);
        both.due(OPENED, "open", 0, 47);
        both.due(0, "count", 0, 0);
        both.due(1, "count", 0, 1);
        both.due(47, "count", 0, 2);
        both.due(0, "count", 0, 3);
    }

    private static void countsOfOtherNumbers() {
        Both both = come("NONE for another number", 2);
        for (int end = 0; end < 2; end++) {
            for (int what : new int[] {-1, 4, 5, 256, 257, 1 << 16, Integer.MIN_VALUE, Integer.MAX_VALUE}) {
                both.due(-1, "count", end, what);
            }
            for (int what = 0; what < 4; what++) {
                Both.hold("count " + what, "" + both.call("count", end, what).equals("-1"), "false");
            }
        }
        both.due(Both.INDEX, "count", 2, 4);
        both.due(Both.INDEX, "count", -1, -1);
    }

    private static void keepsByTheHeader() {
        Both both = come("whether an end keeps a key for the header of a letter", 1);
        Scenes.send(both, 0, 3);
        for (int letter = 0; letter < 4; letter++) {
            both.due(false, "keeps", 1, letter);
        }
        both.due(OPENED, "open", 1, 3);
        boolean[] kept = {false, true, true, false};
        for (int letter = 0; letter < 4; letter++) {
            both.due(kept[letter], "keeps", 1, letter);
        }
        // The ratchet key, to its last bit, and the number; not what else there is.
        both.due(false, "keeps", 1, Scenes.spoil(both, 1, 0));
        both.due(false, "keeps", 1, both.change(1, 31, both.number("wire", 1, 31) ^ 128));
        both.due(true, "keeps", 1, both.change(1, NUMBER, 2));
        both.due(false, "keeps", 1, both.change(1, NUMBER, 3));
        both.due(false, "keeps", 1, both.change(1, NUMBER, 0));
        both.due(true, "keeps", 1, both.change(0, NUMBER, 1));
        for (int at : new int[] {BEFORE, SEALED, MARK, 49, Scenes.BEGINNER, 83}) {
            both.due(true, "keeps", 1, Scenes.spoil(both, 1, at));
            both.due(true, "keeps", 1, both.change(1, at, 255));
        }
        both.due(OPENED, "open", 1, 1);
        both.due(false, "keeps", 1, 1);
        both.due(true, "keeps", 1, 2);
    }

    private static void keepsOfThisEndAlone() {
        Both both = come("an end keeps, and no other one does", 1);
        both.due(2, "answer", 1, 0);
        Scenes.send(both, 0, 2);
        both.due(OPENED, "open", 1, 2);
        both.due(true, "keeps", 1, 1);
        both.due(false, "keeps", 0, 1);
        both.due(false, "keeps", 2, 1);
        both.due(0, "count", 2, 3);
        both.due(OPENED, "open", 2, 2);
        both.due(OPENED, "open", 1, 1);
        both.due(false, "keeps", 1, 1);
        both.due(true, "keeps", 2, 1);
        // Each of eight ends that could keep it, one after the other.
        for (int end = 3; end < 8; end++) {
            both.due(end, "answer", 1, 0);
        }
        for (int opens = 3; opens < 8; opens++) {
            both.due(OPENED, "open", opens, 2);
            for (int end = 0; end < 8; end++) {
                both.due(end >= 2 && end <= opens, "keeps", end, 1);
            }
        }
    }

    private static void wordsThatAreNone() {
        Both both = Scenes.answered("0 where it has none: the receiving chain of one that began", 235);
        for (int part = 0; part < 4; part++) {
            both.due(0, "word", 0, 2, part);
        }
        Scenes.send(both, 1, 1);
        both.refuseAlone(WRONG, "open", 0, Scenes.spoil(both, 1, MARK));
        for (int part = 0; part < 4; part++) {
            both.due(0, "word", 0, 2, part);
        }
        both.due(OPENED, "open", 0, 1);
        for (int end = 0; end < 2; end++) {
            for (int what = 0; what < 5; what++) {
                for (int part = 0; part < 4; part++) {
                    Both.hold("there is a word " + what, "" + both.call("word", end, what, part).equals("0"), "false");
                }
            }
        }
        // Another end that began later, where this one's chain was tried before, has none.
        both.due(2, "begin", 0, 1);
        for (int part = 0; part < 4; part++) {
            both.due(0, "word", 2, 2, part);
        }
    }

    private static void wordsOfOtherNumbers() {
        Both both = come("0 for another number", 2);
        for (int end = 0; end < 2; end++) {
            for (int what : new int[] {-1, 5, 6, 256, 257, 1 << 16, Integer.MIN_VALUE, Integer.MAX_VALUE}) {
                for (int part = 0; part < 4; part++) {
                    both.due(0, "word", end, what, part);
                }
            }
        }
        both.due(Both.INDEX, "word", 1, 5, 4);
        both.due(Both.INDEX, "word", 1, -1, -1);
        both.due(Both.INDEX, "word", 2, 5, 0);
    }
}
