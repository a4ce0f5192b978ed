import java.lang.reflect.InvocationTargetException;
import java.lang.reflect.Method;
import java.util.ArrayList;
import java.util.HashMap;
import java.util.List;
import java.util.Map;

/**
 * Calls that are made again and again, each time on a new RatchetDesk, and all that can be seen
 * behind them: more than the 512 calls of one object would show.
 */
final class Replay {
    static final int MOST_CALLS = 512;
    private static final int PEOPLE = 4, ENDS = 8;
    private static final Map<String, Method> FACE = publicMethods(RatchetDesk.class);

    /** One call, to be made on any object. */
    record Call(String method, Object... args) { }

    private final int seed;
    private final List<Call> calls;

    Replay(int seed, List<Call> calls) {
        this.seed = seed;
        this.calls = calls;
    }

    static Map<String, Method> publicMethods(Class<?> type) {
        Map<String, Method> found = new HashMap<>();
        for (Method m : type.getDeclaredMethods()) {
            if ((m.getModifiers() & 1) != 0) {
                found.put(m.getName(), m);
            }
        }
        return found;
    }

    static String outcome(Method m, Object on, Object... args) {
        try {
            Object answer = m.invoke(on, args);
            return answer == null ? "nothing" : answer.toString();
        } catch (InvocationTargetException e) {
            return "throws." + e.getCause().getClass().getSimpleName();
        } catch (IllegalAccessException e) {
            throw new AssertionError(e);
        }
    }

    private static String make(RatchetDesk desk, Call call) {
        return outcome(FACE.get(call.method), desk, call.args);
    }

    private RatchetDesk again() {
        RatchetDesk desk = new RatchetDesk(seed);
        for (Call call : calls) {
            make(desk, call);
        }
        return desk;
    }

    /** What these questions are answered behind the calls, by as many objects as it takes. */
    List<String> answers(List<Call> questions) {
        List<String> seen = new ArrayList<>();
        RatchetDesk desk = again();
        int used = calls.size();
        for (Call question : questions) {
            if (used == MOST_CALLS) {
                desk = again();
                used = calls.size();
            }
            seen.add(question.method + List.of(question.args) + " = " + make(desk, question));
            used++;
        }
        return seen;
    }

    /** Every question that can be asked without changing anything. */
    List<Call> everyQuestion() {
        List<Call> ask = new ArrayList<>(List.of(new Call("ends"), new Call("letters")));
        for (int i = 0; i < PEOPLE; i++) {
            ask.add(new Call("offers", i));
            for (int part = 0; part < 4; part++) {
                ask.add(new Call("get", i, part));
            }
        }
        RatchetDesk desk = again();
        int letters = desk.letters();
        for (int end = 0; end < desk.ends(); end++) {
            askOfEnd(ask, end, letters);
        }
        for (int letter = 0; letter < letters; letter++) {
            ask.add(new Call("length", letter));
            for (int at = 0; at < desk.length(letter); at++) {
                ask.add(new Call("wire", letter, at));
            }
        }
        return ask;
    }

    private static void askOfEnd(List<Call> ask, int end, int letters) {
        for (int what = 0; what < 5; what++) {
            ask.add(new Call("count", end, what));
            for (int part = 0; part < 4; part++) {
                ask.add(new Call("word", end, what, part));
            }
        }
        ask.add(new Call("text", end));
        ask.add(new Call("person", end, false));
        ask.add(new Call("person", end, true));
        for (int letter = 0; letter < letters; letter++) {
            ask.add(new Call("keeps", end, letter));
        }
    }

    /**
     * Plays behind the calls, each on an object of its own, that bring out what cannot be asked: which
     * secret is the next, which one-time secrets are kept, what the chains and kept keys are good for.
     */
    List<List<Call>> plays() {
        int letters = again().letters();
        List<List<Call>> plays = new ArrayList<>(List.of(beginnings(letters), answers(letters)));
        for (int end = 0; end < again().ends(); end++) {
            plays.add(openings(end, letters));
        }
        return plays;
    }

    private static List<Call> beginnings(int letters) {
        List<Call> play = new ArrayList<>();
        for (int person = 0; person < PEOPLE; person++) {
            play.add(new Call("stock", person));
            play.add(new Call("begin", person, (person + 1) % PEOPLE));
        }
        for (int end = 0; end < ENDS; end++) {
            play.add(new Call("send", end, 70L + end));
            play.add(new Call("length", letters + end));
            play.add(new Call("wire", letters + end, 0));
            play.add(new Call("wire", letters + end, 42));
            play.add(new Call("word", end, 3, 0));
        }
        return play;
    }

    private static List<Call> answers(int letters) {
        List<Call> play = new ArrayList<>();
        for (int letter = letters - 1; letter >= 0; letter--) {
            for (int person = 0; person < PEOPLE; person++) {
                play.add(new Call("answer", person, letter));
            }
        }
        for (int end = 0; end < ENDS; end++) {
            play.add(new Call("word", end, 3, 0));
            play.add(new Call("text", end));
        }
        return play;
    }

    /** From the last letter to the first, and then what was too far. */
    private static List<Call> openings(int end, int letters) {
        List<Call> play = new ArrayList<>();
        for (int i = 0; i < 2 * letters; i++) {
            play.add(new Call("open", end, i < letters ? letters - 1 - i : i - letters));
        }
        askOfEnd(play, end, letters);
        play.add(new Call("send", end, 70L));
        play.add(new Call("length", letters));
        return play;
    }
}
