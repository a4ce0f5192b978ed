/**
 * The edges of TO ANSWER and promise 12: each run bears the sentence that it holds. Letters that no
 * end would send are made up with the right mark (see Both.craftFirst).
 */
public final class EdgesOfAnsweringTest {
    private static final int FAR = Scenes.FAR, WRONG = Scenes.WRONG, OPENED = Scenes.OPENED, OLD = Scenes.OLD;
    private static final int BEFORE = Scenes.BEFORE, NUMBER = Scenes.NUMBER, MARK = Scenes.MARK;
    private static final int BEGINNER = Scenes.BEGINNER, ONE_TIME = Scenes.ONE_TIME, SHOWN = Scenes.SHOWN;

    public static void main(String[] args) {
        numbersFromZeroToSeven();
        highestNumber();
        beforeOfAFirstLetter();
        fiftyBytes();
        whoBeganIsNoPerson();
        whoBeganIsTheLastPerson();
        whoBeganIsTheSameOne();
        whoBeganIsAnotherOne();
        notForThisPerson();
        oneTimeOnOfferOrNot();
        oneTimeNotMadeYet();
        oneTimeOfNumbersBeyond();
        oneTimeUsed();
        oneTimeUpToTheLast();
        oneTimeNotTold();
        oneTimeToldWithoutOne();
        oneTimeNotUsedByAFailure();
        againAndAgainWithoutOneTime();
        shownKeyOfZero();
        highBitOfTheShownKey();
        everyByteOfALetter();
        nothingChangesThen();
        seventhAndEighthEnd();
        newEndOfOneThatAnswered();
        Both.end();
    }

    private static void numbersFromZeroToSeven() {
        for (int n = 0; n <= 8; n++) {
            Both both = Scenes.begun("or FAR, as its opening says: letter " + n, 301, 1);
            Scenes.send(both, 0, n);
            if (n > 6) {
                both.refuseAlone(FAR, "answer", 1, n);
                both.due(1, "ends");
            } else {
                both.due(1, "answer", 1, n);
                both.due(1000L + n, "text", 1);
                both.due(n, "count", 1, 3);
                both.due(n + 1, "count", 1, 1);
                for (int letter = 0; letter <= n; letter++) {
                    both.due(letter < n, "keeps", 1, letter);
                }
            }
        }
    }

    private static void highestNumber() {
        Both both = Scenes.begun("FAR, for letter 255", 302, 0);
        both.refuse(FAR, "answer", 1, both.change(0, NUMBER, 255));
        both.refuse(FAR, "answer", 1, both.change(0, NUMBER, 128));
        both.refuse(FAR, "answer", 1, both.change(0, NUMBER, 7));
        both.refuse(WRONG, "answer", 1, both.change(0, NUMBER, 6));
        both.unchanged();
        // FAR comes before WRONG.
        both.refuseAlone(FAR, "answer", 1, both.change(0, NUMBER, 7, MARK, 0, MARK + 1, 0));
        both.due(1, "answer", 1, 0);
    }

    private static void beforeOfAFirstLetter() {
        for (int b : new int[] {1, 7, 255}) {
            Both both = Scenes.begun("no chains: BEFORE is not looked at, b = " + b, 303, 0);
            both.refuseAlone(WRONG, "answer", 1, both.change(0, BEFORE, b));
            both.due(1, "answer", 1, both.craftFirst(1, 0, BEFORE, b));
            both.due(1, "count", 1, 1);
            both.due(0, "count", 1, 3);
            both.look(1);
        }
    }

    private static void fiftyBytes() {
        Both both = Scenes.answered("WRONG also when it has 50 bytes", 304);
        for (int person = 0; person < 4; person++) {
            both.due(0, "stock", person);
        }
        Scenes.send(both, 1, 1);
        both.due(50, "length", 1);
        int far = both.change(1, NUMBER, 255);
        for (int person = 0; person < 4; person++) {
            both.refuseAlone(WRONG, "answer", person, 1);
            // It is not opened, and so not FAR.
            both.refuseAlone(WRONG, "answer", person, far);
        }
        both.due(2, "ends");
        both.due(OPENED, "open", 0, 1);
    }

    private static void whoBeganIsNoPerson() {
        Both both = Scenes.begun("WRONG also when who began is no person", 305, 0);
        for (int who : new int[] {4, 5, 127, 128, 252, 255}) {
            both.refuse(WRONG, "answer", 1, both.change(0, BEGINNER, who));
            // There is nobody with whom to open it, and so it is not FAR.
            both.refuse(WRONG, "answer", 1, both.change(0, BEGINNER, who, NUMBER, 255));
        }
        both.unchanged();
        both.due(1, "ends");
    }

    private static void whoBeganIsTheLastPerson() {
        Both both = new Both("who began is a person: the first and the last", 306);
        both.due(0, "begin", 3, 0);
        both.due(1, "begin", 0, 3);
        Scenes.send(both, 0, 1);
        Scenes.send(both, 1, 1);
        both.refuse(FAR, "answer", 0, both.change(0, NUMBER, 255));
        both.refuse(FAR, "answer", 3, both.change(1, NUMBER, 255));
        both.refuse(WRONG, "answer", 0, both.change(0, NUMBER, 255, BEGINNER, 4));
        both.unchanged();
        both.due(2, "answer", 0, 0);
        both.due(3, "person", 2, true);
        both.due(3, "answer", 3, 1);
        both.due(0, "person", 3, true);
    }

    private static void whoBeganIsTheSameOne() {
        for (int person = 0; person < 4; person++) {
            Both both = new Both("WRONG also when who began is the same one", 307);
            both.due(0, "begin", person, (person + 1) % 4);
            Scenes.send(both, 0, 1);
            both.refuse(WRONG, "answer", person, 0);
            both.refuse(WRONG, "answer", person, both.change(0, NUMBER, 255));
            both.refuse(FAR, "answer", (person + 1) % 4, 1);
            both.refuse(WRONG, "answer", (person + 1) % 4, both.change(0, BEGINNER, (person + 1) % 4));
            both.unchanged();
            // Even if he reckoned all as it should be.
            int own = both.craftFirst(person, 0);
            both.refuseAlone(WRONG, "answer", person, own);
            both.due(1, "answer", (person + 1) % 4, 0);
        }
    }

    private static void whoBeganIsAnotherOne() {
        Both both = Scenes.begun("with who began as told there", 308, 0);
        for (int who : new int[] {2, 3}) {
            both.refuseAlone(WRONG, "answer", 1, both.change(0, BEGINNER, who));
        }
        both.due(1, "answer", 1, both.craftFirst(1, 0, BEGINNER, 3));
        both.due(3, "person", 1, true);
        both.look(1);
    }

    private static void notForThisPerson() {
        Both both = Scenes.begun("WRONG, as its opening says: it is for another one", 309, 0);
        both.refuseAlone(WRONG, "answer", 2, 0);
        both.refuseAlone(WRONG, "answer", 3, 0);
        both.refuseAlone(FAR, "answer", 2, both.change(0, NUMBER, 7));
        both.due(1, "answer", 1, 0);
    }

    private static void oneTimeOnOfferOrNot() {
        // Three are made, one is taken: what is too far tells a kept one from one that is not.
        Both both = Scenes.begun("one that is kept (on offer or not)", 310, 3);
        both.due(2, "offers", 1);
        int far = both.change(0, NUMBER, 7);
        for (int o = 0; o < 3; o++) {
            both.refuseAlone(FAR, "answer", 1, both.change(far, ONE_TIME, o));
            if (o > 0) {
                both.refuseAlone(WRONG, "answer", 1, both.change(0, ONE_TIME, o));
            }
        }
        both.due(2, "offers", 1);
        both.due(1, "answer", 1, 0);
        // One on offer, told by who knows how: it is answered, too.
        Both offer = Scenes.begun("one that is kept and on offer", 310, 3);
        int told = offer.craftFirst(1, 0, ONE_TIME, 2);
        offer.due(1, "answer", 1, told);
        offer.look(1);
        offer.refuseAlone(WRONG, "answer", 1, told);
        // The one that was taken is kept still.
        offer.due(2, "answer", 1, 0);
    }

    private static void oneTimeNotMadeYet() {
        Both both = Scenes.begun("o was told and is not one that is kept: not made yet", 311, 2);
        int far = both.change(0, NUMBER, 255);
        int third = both.change(far, ONE_TIME, 2);
        both.refuseAlone(FAR, "answer", 1, both.change(far, ONE_TIME, 1));
        both.refuseAlone(WRONG, "answer", 1, third);
        both.refuseAlone(WRONG, "answer", 1, both.change(0, ONE_TIME, 2));
        // Of another person's number 0 he has nothing.
        both.refuseAlone(WRONG, "answer", 3, far);
        both.due(2, "stock", 1);
        both.refuseAlone(FAR, "answer", 1, third);
    }

    private static void oneTimeOfNumbersBeyond() {
        Both both = new Both("o was told and is not one that is kept: beyond the eighth", 312);
        for (int i = 0; i < 8; i++) {
            both.due(i, "stock", 1);
        }
        both.due(0, "begin", 0, 1);
        Scenes.send(both, 0, 1);
        int far = both.change(0, NUMBER, 255);
        both.refuse(FAR, "answer", 1, both.change(far, ONE_TIME, 7));
        for (int o : new int[] {8, 9, 127, 128, 253, 254}) {
            both.refuse(WRONG, "answer", 1, both.change(far, ONE_TIME, o));
            both.refuse(WRONG, "answer", 1, both.change(0, ONE_TIME, o));
        }
        both.refuse(FAR, "answer", 1, both.change(far, ONE_TIME, 255));
        both.unchanged();
        both.due(7, "offers", 1);
    }

    private static void oneTimeUsed() {
        Both both = Scenes.begun("kept until it was used", 313, 2);
        Scenes.send(both, 0, 2);
        int far = both.change(0, NUMBER, 255);
        both.due(1, "answer", 1, 1);
        for (int letter = 0; letter < 4; letter++) {
            both.refuseAlone(WRONG, "answer", 1, letter);
        }
        both.refuseAlone(FAR, "answer", 1, both.change(far, ONE_TIME, 1));
        both.due(1, "offers", 1);
        both.due(2, "ends");
        // The letters are good for the end that is there.
        both.due(OPENED, "open", 1, 0);
        both.due(OPENED, "open", 1, 2);
    }

    private static void oneTimeUpToTheLast() {
        // To begin with the numbers 0 .. o takes o + 1 ends, and the answer one more.
        for (int o = 0; o < 7; o++) {
            Both both = new Both("AGREE(o, PUBLIC(e)), o of the number " + o, 325);
            for (int i = 0; i < 8; i++) {
                both.due(i, "stock", 2);
            }
            for (int end = 0; end <= o; end++) {
                both.due(end, "begin", 3, 2);
            }
            Scenes.send(both, o, 1);
            Scenes.send(both, 0, 1);
            both.due(o, "wire", 0, ONE_TIME);
            both.due(o + 1, "answer", 2, 0);
            both.due(1000, "text", o + 1);
            both.look(o + 1);
            if (o < 6) {
                // It is used, it alone.
                both.refuseAlone(WRONG, "answer", 2, 0);
                both.due(o == 0 ? WRONG : o + 2, "answer", 2, 1);
            }
        }
        Both last = Scenes.begun("AGREE(o, PUBLIC(e)), o of the number 7", 325, 8);
        last.due(1, "answer", 1, last.craftFirst(1, 0, ONE_TIME, 7));
        last.look(1);
    }

    private static void oneTimeNotTold() {
        Both both = Scenes.begun("perhaps AGREE(o, PUBLIC(e)): not when o is 255", 315, 2);
        both.refuseAlone(WRONG, "answer", 1, both.change(0, ONE_TIME, 255));
        both.due(1, "answer", 1, both.craftFirst(1, 0, ONE_TIME, 255));
        // No one-time secret was used by this.
        both.due(1, "offers", 1);
        both.due(2, "answer", 1, 0);
        both.due(1, "offers", 1);
    }

    private static void oneTimeToldWithoutOne() {
        Both both = Scenes.begun("o was told, and none was used to begin", 316, 0);
        both.refuseAlone(WRONG, "answer", 1, both.change(0, ONE_TIME, 0));
        both.due(0, "stock", 1);
        both.refuseAlone(WRONG, "answer", 1, 1);
        both.due(1, "offers", 1);
        both.due(1, "answer", 1, 0);
        both.due(1, "offers", 1);
    }

    private static void oneTimeNotUsedByAFailure() {
        Both both = Scenes.begun("if it does, o is used; if not, it is not", 317, 1);
        Scenes.send(both, 0, 7);
        both.refuseAlone(FAR, "answer", 1, 7);
        both.refuseAlone(WRONG, "answer", 1, Scenes.spoil(both, 0, MARK));
        both.refuseAlone(WRONG, "answer", 1, Scenes.spoil(both, 0, SHOWN));
        both.due(1, "answer", 1, 6);
        both.refuseAlone(WRONG, "answer", 1, 0);
    }

    private static void againAndAgainWithoutOneTime() {
        Both both = Scenes.begun("without o a letter is answered as often as there is room", 318, 0);
        for (int end = 1; end < 8; end++) {
            both.due(end, "answer", 1, 0);
            both.due(1000, "text", end);
        }
        both.refuseAlone(Both.STATE, "answer", 1, 0);
        Both.hold("each with a secret of its own",
            "" + both.call("word", 1, 3, 0).equals(both.call("word", 7, 3, 0)), "false");
    }

    private static void shownKeyOfZero() {
        Both both = Scenes.begun("PUBLIC(e) of 0: agreements of 0, as good as others", 319, 1);
        int letter = 0;
        for (int at = SHOWN; at < 84; at++) {
            letter = both.number("forge", letter, at, 0);
        }
        both.refuseAlone(WRONG, "answer", 1, letter);
        both.due(1, "answer", 1, both.craftFirst(1, letter));
        both.look(1);
    }

    private static void highBitOfTheShownKey() {
        Both both = Scenes.begun("bit 255 of PUBLIC(e) counts as 0, and no mark is of it", 320, 1);
        both.due(1, "answer", 1, both.change(0, 83, both.number("wire", 0, 83) ^ 128));
        both.due(1000, "text", 1);
        both.due(OLD, "open", 1, 0);
    }

    private static void everyByteOfALetter() {
        for (int from = 0; from < 84; from += 42) {
            Both both = Scenes.begun("WRONG, as its opening says: each byte counts", 321, 1);
            for (int at = from; at < from + 42; at++) {
                both.refuse(WRONG, "answer", 1, Scenes.spoil(both, 0, at));
            }
            both.unchanged();
            both.due(1, "answer", 1, 0);
        }
    }

    private static void nothingChangesThen() {
        Both both = Scenes.answered("nothing changes then: with ends, letters and kept keys there", 322);
        both.due(0, "stock", 1);
        both.due(2, "begin", 2, 1);
        Scenes.send(both, 2, 8);
        Scenes.send(both, 0, 3);
        both.due(OPENED, "open", 1, 11);
        both.refuseAlone(FAR, "answer", 1, 8);
        both.refuseAlone(WRONG, "answer", 2, 1);
        both.refuseAlone(WRONG, "answer", 3, 1);
        both.refuseAlone(WRONG, "answer", 1, Scenes.spoil(both, 1, MARK));
        both.refuseAlone(WRONG, "answer", 1, both.change(1, ONE_TIME, 1));
        both.refuseAlone(WRONG, "answer", 1, both.change(1, BEGINNER, 4));
        both.due(3, "answer", 1, 1);
        both.due(1001, "text", 3);
    }

    private static void seventhAndEighthEnd() {
        Both both = Scenes.begun("IllegalStateException when there are 8 ends, not when there are 7", 323, 0);
        for (int end = 1; end < 7; end++) {
            both.due(end, "begin", 2, 3);
        }
        both.refuseAlone(WRONG, "answer", 2, 0);
        both.due(7, "answer", 1, 0);
        both.refuseAlone(Both.STATE, "answer", 2, 0);
        both.due(1000, "text", 7);
    }

    private static void newEndOfOneThatAnswered() {
        Both both = Scenes.begun("the end stays: opened one letter, sent none, turned once", 324, 1);
        String prekey = both.call("word", 0, 4, 0);
        both.due(1, "answer", 1, 0);
        int[] counts = {0, 1, 0, 0};
        for (int what = 0; what < 4; what++) {
            both.due(counts[what], "count", 1, what);
        }
        both.due(both.call("word", 0, 3, 0), "word", 1, 4, 0);
        Both.hold("its own ratchet secret is the prekey no more", "" + both.call("word", 1, 3, 0).equals(prekey), "false");
        // The prekey is as it was: others begin with it still.
        both.due(2, "begin", 2, 1);
        both.due(prekey, "word", 2, 4, 0);
        Scenes.send(both, 2, 1);
        both.due(3, "answer", 1, 1);
        both.due(1001, "text", 3);
    }
}
