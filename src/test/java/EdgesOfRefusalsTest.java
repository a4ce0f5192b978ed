import java.util.Random;

/**
 * Every throws clause of the face: the last number that is taken and the first that is refused, on
 * both sides; the first exception that fits; and that a call that throws changes nothing.
 */
public final class EdgesOfRefusalsTest {
    public static void main(String[] args) {
        nothingYet();
        endsButNoLetters();
        noSuchKey();
        noSuchPart();
        noSuchLengthOfARow();
        noSuchPerson();
        noSuchPersonWhenAllIsFull();
        noSuchEnd();
        noSuchLetter();
        noSuchByte();
        noSuchByteOfAShortLetter();
        noByte();
        nobodyBeginsWithHimself();
        nineOneTimeSecrets();
        nineEndsByBeginning();
        nineEndsByAnswering();
        letterFortyNineSent();
        letterFortyNineForged();
        firstThatFitsOfStock();
        firstThatFitsOfBegin();
        firstThatFitsOfSend();
        firstThatFitsOfForge();
        firstThatFitsOfAnswer();
        openWhenAllIsFull();
        Both.end();
    }

    /** Refused is each number beside 0 .. bound - 1 in this place of the call; some would fit if bits were lost. */
    private static void beside(Both both, int bound, int place, String method, Object... args) {
        int[] others = {-1, bound, bound + 1, -bound - 1, 256, -256, 1 << 16, Integer.MIN_VALUE, Integer.MAX_VALUE};
        for (int other : others) {
            Object[] with = args.clone();
            with[place] = other;
            both.refuse(Both.INDEX, method, with);
        }
    }

    private static void nothingYet() {
        Both both = new Both("there is no such end or letter, as none was made yet", 61);
        for (int i : new int[] {0, -1, 1}) {
            both.refuse(Both.INDEX, "send", i, 5L);
            both.refuse(Both.INDEX, "forge", i, 0, 0);
            both.refuse(Both.INDEX, "answer", 1, i);
            both.refuse(Both.INDEX, "open", i, 0);
            both.refuse(Both.INDEX, "open", 0, i);
            both.refuse(Both.INDEX, "text", i);
            both.refuse(Both.INDEX, "person", i, false);
            both.refuse(Both.INDEX, "person", i, true);
            both.refuse(Both.INDEX, "length", i);
            both.refuse(Both.INDEX, "wire", i, 0);
            both.refuse(Both.INDEX, "count", i, 0);
            both.refuse(Both.INDEX, "keeps", i, 0);
            both.refuse(Both.INDEX, "word", i, 0, 0);
        }
        both.due(0, "ends");
        both.due(0, "letters");
        both.unchanged();
    }

    private static void endsButNoLetters() {
        Both both = new Both("there is no such letter, as none was sent yet", 62);
        both.due(0, "begin", 0, 1);
        both.refuse(Both.INDEX, "forge", 0, 0, 0);
        both.refuse(Both.INDEX, "answer", 1, 0);
        both.refuse(Both.INDEX, "open", 0, 0);
        both.refuse(Both.INDEX, "length", 0);
        both.refuse(Both.INDEX, "wire", 0, 0);
        both.refuse(Both.INDEX, "keeps", 0, 0);
        both.unchanged();
        both.due(0, "send", 0, 5L);
        both.due(84, "length", 0);
    }

    private static void noSuchKey() {
        Both both = new Both("there is no such key", 63);
        Keys.putRandom(both, new Random(63));
        beside(both, 4, 0, "put", 0, 0, 1L);
        beside(both, 4, 0, "get", 0, 0);
        for (int place = 0; place < 3; place++) {
            beside(both, 4, place, "agree", 0, 1, 2);
            beside(both, 4, place, "mac", 0, 1, 2);
        }
        beside(both, 4, 1, "digest", 3, 0);
        both.unchanged();
        for (int k : new int[] {0, 3}) {
            both.due("nothing", "put", k, 0, 1L + k);
            both.due(1L + k, "get", k, 0);
            both.due("nothing", "agree", k, 3 - k, 1);
            both.due("nothing", "agree", 1, 2, k);
            both.due("nothing", "mac", k, 3 - k, 2);
            both.due("nothing", "mac", 1, 2, k);
            both.due("nothing", "digest", 3, k);
            Keys.getAll(both);
        }
    }

    private static void noSuchPart() {
        Both both = Scenes.answered("there is no such part", 64);
        Keys.putRandom(both, new Random(64));
        beside(both, 4, 1, "put", 0, 0, 1L);
        beside(both, 4, 1, "get", 0, 0);
        for (int what : new int[] {0, 1, 2, 3, 4, 5, -1}) {
            beside(both, 4, 2, "word", 1, what, 0);
        }
        both.unchanged();
        for (int part : new int[] {0, 3}) {
            both.due("nothing", "put", 0, part, 7L);
            both.due(7, "get", 0, part);
            for (int what = 0; what < 5; what++) {
                Both.hold("a part of word " + what, "" + both.call("word", 1, what, part).startsWith("throws"), "false");
            }
        }
    }

    private static void noSuchLengthOfARow() {
        for (int into = 0; into < 4; into++) {
            Both both = new Both("IndexOutOfBoundsException also when n is none of 0 .. 128", 65);
            Keys.putRandom(both, new Random(65));
            beside(both, 129, 0, "digest", 0, into);
            both.refuse(Both.INDEX, "digest", -1, 4);
            both.refuse(Both.INDEX, "digest", 129, -1);
            both.unchanged();
            both.due("nothing", "digest", 128, into);
            Keys.getAll(both);
            both.due("nothing", "digest", 0, into);
            Keys.getAll(both);
        }
    }

    private static void noSuchPerson() {
        Both both = Scenes.begun("there is no such person", 66, 1);
        beside(both, 4, 0, "stock", 0);
        beside(both, 4, 0, "offers", 0);
        beside(both, 4, 0, "begin", 0, 1);
        beside(both, 4, 1, "begin", 0, 1);
        beside(both, 4, 0, "answer", 1, 0);
        both.unchanged();
        both.due(0, "stock", 0);
        both.due(0, "stock", 3);
        both.due(1, "offers", 0);
        both.due(1, "offers", 3);
        both.due(1, "begin", 0, 3);
        both.due(2, "begin", 3, 0);
        both.due(1, "send", 1, 11L);
        both.due(2, "send", 2, 12L);
        both.due(3, "answer", 3, 1);
        both.due(4, "answer", 0, 2);
        both.due(11, "text", 3);
        both.due(12, "text", 4);
    }

    private static void noSuchPersonWhenAllIsFull() {
        Both both = Scenes.full("there is no such person, and no room either", 67);
        beside(both, 4, 0, "stock", 0);
        beside(both, 4, 0, "begin", 0, 1);
        beside(both, 4, 1, "begin", 0, 1);
        beside(both, 4, 0, "answer", 1, 0);
        both.unchanged();
    }

    private static void noSuchEnd() {
        for (int ends : new int[] {1, 2, 8}) {
            String name = "there is no such end, of " + ends;
            Both both = ends == 1 ? Scenes.begun(name, 68, 0) : ends == 2 ? Scenes.answered(name, 68) : Scenes.full(name, 68);
            both.due(ends, "ends");
            beside(both, ends, 0, "send", 0, 5L);
            beside(both, ends, 0, "open", 0, 0);
            beside(both, ends, 0, "text", 0);
            beside(both, ends, 0, "person", 0, false);
            beside(both, ends, 0, "person", 0, true);
            beside(both, ends, 0, "count", 0, 0);
            beside(both, ends, 0, "count", 0, 4);
            beside(both, ends, 0, "keeps", 0, 0);
            beside(both, ends, 0, "word", 0, 0, 0);
            beside(both, ends, 0, "word", 0, 5, 0);
            both.unchanged();
            for (int end : new int[] {0, ends - 1}) {
                both.look(end);
                both.call("keeps", end, 0);
                both.call("open", end, 0);
                if (ends < 8) {
                    both.due(both.number("letters"), "send", end, 5L);
                }
            }
        }
    }

    private static void noSuchLetter() {
        for (int letters : new int[] {1, 3, 48}) {
            String name = "there is no such letter, of " + letters;
            Both both = letters == 48 ? Scenes.full(name, 69) : Scenes.begun(name, 69, 0);
            Scenes.send(both, 0, letters == 3 ? 2 : 0);
            both.due(letters, "letters");
            beside(both, letters, 0, "forge", 0, 0, 0);
            beside(both, letters, 1, "answer", 1, 0);
            beside(both, letters, 1, "open", 0, 0);
            beside(both, letters, 0, "length", 0);
            beside(both, letters, 0, "wire", 0, 0);
            beside(both, letters, 1, "keeps", 0, 0);
            both.unchanged();
            for (int letter : new int[] {0, letters - 1}) {
                both.due(84, "length", letter);
                both.call("wire", letter, 0);
                both.due(false, "keeps", 0, letter);
                both.due(Scenes.WRONG, "open", 0, letter);
                if (letters < 48) {
                    both.due(both.number("letters"), "forge", letter, 0, 0);
                }
            }
        }
    }

    private static void noSuchByte() {
        Both both = Scenes.begun("there is no such byte, of 84", 70, 0);
        beside(both, 84, 1, "forge", 0, 0, 0);
        beside(both, 84, 1, "wire", 0, 0);
        both.unchanged();
        both.due(0, "wire", 0, 50);
        both.due(1, "forge", 0, 83, 5);
        both.due(5, "wire", 1, 83);
        both.due(2, "forge", 0, 0, 6);
        both.due(6, "wire", 2, 0);
    }

    private static void noSuchByteOfAShortLetter() {
        // Also where a letter of 84 bytes stood before: each has bytes of its own.
        Both both = Scenes.answered("there is no such byte, of 50", 71);
        Scenes.send(both, 1, 1);
        both.due(50, "length", 1);
        beside(both, 50, 1, "forge", 1, 0, 0);
        beside(both, 50, 1, "wire", 1, 0);
        for (int at : new int[] {51, 52, 83, 84}) {
            both.refuse(Both.INDEX, "wire", 1, at);
            both.refuse(Both.INDEX, "forge", 1, at, 0);
        }
        both.unchanged();
        both.due(2, "forge", 1, 49, 5);
        both.due(5, "wire", 2, 49);
        both.due(50, "length", 2);
        both.refuse(Both.INDEX, "wire", 2, 50);
        both.refuse(Both.INDEX, "forge", 2, 50, 0);
        both.unchanged();
    }

    private static void noByte() {
        for (int at : new int[] {0, 49, 83}) {
            Both both = Scenes.begun("value is not 0 .. 255", 72, 0);
            for (int value : new int[] {-1, 256, 257, -255, -256, 511, 1 << 16, Integer.MIN_VALUE, Integer.MAX_VALUE}) {
                both.refuse(Both.ARGUMENT, "forge", 0, at, value);
            }
            both.unchanged();
            both.due(1, "letters");
            both.due(1, "forge", 0, at, 0);
            both.due(0, "wire", 1, at);
            both.due(2, "forge", 0, at, 255);
            both.due(255, "wire", 2, at);
        }
    }

    private static void nobodyBeginsWithHimself() {
        Both both = new Both("IllegalArgumentException when they are one", 73);
        for (int person = 0; person < 4; person++) {
            both.due(0, "stock", person);
        }
        for (int person = 0; person < 4; person++) {
            both.refuseAlone(Both.ARGUMENT, "begin", person, person);
            both.due(1, "offers", person);
        }
        both.due(0, "ends");
        both.due(0, "begin", 0, 1);
        both.refuseAlone(Both.ARGUMENT, "begin", 1, 1);
    }

    private static void nineOneTimeSecrets() {
        for (int person = 0; person < 4; person++) {
            int other = (person + 1) % 4;
            Both both = new Both("IllegalStateException when the person got 8", 74);
            for (int i = 0; i < 7; i++) {
                both.due(i, "stock", person);
            }
            both.due(7, "offers", person);
            both.due(7, "stock", person);
            both.due(8, "offers", person);
            both.refuseAlone(Both.STATE, "stock", person);
            both.due(8, "offers", person);
            // The other people have room still.
            both.due(0, "stock", other);
            // It counts how many he got, not how many are left: taken, and used.
            both.due(0, "begin", other, person);
            both.due(7, "offers", person);
            both.refuseAlone(Both.STATE, "stock", person);
            Scenes.send(both, 0, 1);
            both.due(1, "answer", person, 0);
            both.refuseAlone(Both.STATE, "stock", person);
            both.due(7, "offers", person);
        }
    }

    private static void nineEndsByBeginning() {
        Both both = new Both("begin: IllegalStateException when there are 8 ends, not when there are 7", 75);
        both.due(0, "stock", 1);
        // An end that is to turn yet: the next secret can be seen though no end can be made.
        both.due(0, "begin", 2, 3);
        Scenes.send(both, 0, 1);
        both.due(1, "answer", 3, 0);
        Scenes.send(both, 1, 1);
        for (int end = 2; end < 8; end++) {
            both.due(end, "ends");
            both.due(end, "begin", 2, 3);
        }
        both.due(1, "offers", 1);
        both.refuseAlone(Both.STATE, "begin", 0, 1);
        both.refuseAlone(Both.STATE, "begin", 3, 2);
        both.due(8, "ends");
        both.due(1, "offers", 1);
        both.due(1, "stock", 1);
        both.due(Scenes.OPENED, "open", 0, 1);
        both.look(0);
    }

    private static void nineEndsByAnswering() {
        Both both = Scenes.begun("answer: IllegalStateException when there are 8 ends", 76, 2);
        both.due(1, "begin", 2, 1);
        Scenes.send(both, 1, 1);
        for (int end = 2; end < 7; end++) {
            both.due(end, "begin", 2, 3);
        }
        both.due(7, "answer", 1, 0);
        both.due(8, "ends");
        both.refuseAlone(Both.STATE, "answer", 1, 1);
        // Whatever the letter is worth: used, for another one, of who began himself, too short.
        both.refuseAlone(Both.STATE, "answer", 1, 0);
        both.refuseAlone(Both.STATE, "answer", 3, 1);
        both.refuseAlone(Both.STATE, "answer", 0, 0);
        Scenes.send(both, 7, 1);
        both.due(50, "length", 2);
        both.refuseAlone(Both.STATE, "answer", 1, 2);
        both.due(8, "ends");
    }

    private static Both withLetters(String name, int letters) {
        Both both = Scenes.answered(name, 77);
        Scenes.send(both, 1, 1);
        Scenes.send(both, 0, letters - 2);
        both.due(letters, "letters");
        return both;
    }

    private static void letterFortyNineSent() {
        Both both = withLetters("send: IllegalStateException when there are 48", 47);
        both.due(47, "send", 0, 5L);
        both.due(48, "letters");
        both.refuseAlone(Both.STATE, "send", 0, 5L);
        both.refuseAlone(Both.STATE, "send", 1, 5L);
        both.due(47, "count", 0, 0);
        both.due(1, "count", 1, 0);
        both.due(48, "letters");
    }

    private static void letterFortyNineForged() {
        Both both = withLetters("forge: IllegalStateException when there are 48", 47);
        both.due(47, "forge", 1, 49, 0);
        both.due(48, "letters");
        both.refuseAlone(Both.STATE, "forge", 0, 0, 0);
        both.refuseAlone(Both.STATE, "forge", 47, 49, 255);
        both.refuseAlone(Both.STATE, "forge", 0, 83, both.number("wire", 0, 83));
        both.due(48, "letters");
    }

    private static void firstThatFitsOfStock() {
        Both both = Scenes.full("stock: the first exception in its throws clause that fits", 78);
        both.refuse(Both.INDEX, "stock", -1);
        both.refuse(Both.INDEX, "stock", 4);
        both.unchanged();
        for (int person = 0; person < 4; person++) {
            both.refuse(Both.STATE, "stock", person);
        }
        both.unchanged();
    }

    private static void firstThatFitsOfBegin() {
        Both both = Scenes.full("begin: the first exception in its throws clause that fits", 79);
        both.refuse(Both.INDEX, "begin", 4, 4);
        both.refuse(Both.INDEX, "begin", -1, -1);
        both.refuse(Both.INDEX, "begin", 0, 4);
        both.refuse(Both.INDEX, "begin", -1, 0);
        both.unchanged();
        for (int person = 0; person < 4; person++) {
            both.refuse(Both.ARGUMENT, "begin", person, person);
        }
        both.unchanged();
        for (int person = 0; person < 4; person++) {
            both.refuse(Both.STATE, "begin", person, (person + 3) % 4);
        }
        both.unchanged();
        Both empty = new Both("begin, with room: the first exception that fits", 79);
        empty.refuse(Both.INDEX, "begin", 4, 4);
        empty.refuse(Both.INDEX, "begin", -1, -1);
        empty.refuse(Both.ARGUMENT, "begin", 3, 3);
        empty.unchanged();
    }

    private static void firstThatFitsOfSend() {
        Both both = Scenes.full("send: the first exception in its throws clause that fits", 80);
        both.refuse(Both.INDEX, "send", -1, 5L);
        both.refuse(Both.INDEX, "send", 8, 5L);
        both.unchanged();
        both.refuse(Both.STATE, "send", 0, 5L);
        both.refuse(Both.STATE, "send", 7, 5L);
        both.unchanged();
    }

    private static void firstThatFitsOfForge() {
        Both both = Scenes.full("forge: the first exception in its throws clause that fits", 81);
        both.refuse(Both.INDEX, "forge", 48, 0, 0);
        both.refuse(Both.INDEX, "forge", -1, 0, 256);
        both.refuse(Both.INDEX, "forge", 48, -1, -1);
        both.refuse(Both.INDEX, "forge", 47, 84, 0);
        both.refuse(Both.INDEX, "forge", 47, 84, 256);
        both.refuse(Both.INDEX, "forge", 3, 50, 256);
        both.refuse(Both.INDEX, "forge", 3, -1, -1);
        both.refuse(Both.ARGUMENT, "forge", 47, 83, 256);
        both.refuse(Both.ARGUMENT, "forge", 3, 49, -1);
        both.refuse(Both.STATE, "forge", 47, 83, 255);
        both.refuse(Both.STATE, "forge", 3, 49, 0);
        both.unchanged();
        Both room = Scenes.begun("forge, with room: the first exception that fits", 81, 0);
        room.refuse(Both.INDEX, "forge", 1, 84, 256);
        room.refuse(Both.INDEX, "forge", 0, 84, 256);
        room.refuse(Both.INDEX, "forge", 0, -1, -1);
        room.refuse(Both.ARGUMENT, "forge", 0, 83, 256);
        room.unchanged();
    }

    private static void firstThatFitsOfAnswer() {
        Both both = Scenes.full("answer: the first exception in its throws clause that fits", 82);
        both.refuse(Both.INDEX, "answer", 4, 0);
        both.refuse(Both.INDEX, "answer", -1, 48);
        both.refuse(Both.INDEX, "answer", 1, 48);
        both.refuse(Both.INDEX, "answer", 1, -1);
        both.refuse(Both.STATE, "answer", 1, 0);
        both.refuse(Both.STATE, "answer", 1, 47);
        both.unchanged();
    }

    private static void openWhenAllIsFull() {
        // To open needs no room: neither an end nor a letter is made.
        Both both = Scenes.full("open throws no IllegalStateException", 83);
        both.due(Scenes.OPENED, "open", 0, 3);
        both.due(1003, "text", 0);
        both.due(Scenes.OPENED, "open", 1, 5);
        both.due(1005, "text", 1);
        both.look(0);
        both.look(1);
    }
}
