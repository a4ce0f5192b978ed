import java.lang.reflect.Method;
import java.util.ArrayList;
import java.util.Arrays;
import java.util.List;
import java.util.Map;
import java.util.Set;

/** A RatchetDesk and a Model that get the same calls; answers are written as the issues write them. */
public final class Both {
    static final String INDEX = "throws.IndexOutOfBoundsException";
    static final String ARGUMENT = "throws.IllegalArgumentException";
    static final String STATE = "throws.IllegalStateException";
    private static final Map<String, Method> REAL = Replay.publicMethods(RatchetDesk.class);
    private static final Map<String, Method> MODEL = Replay.publicMethods(Model.class);
    private static final Set<String> QUESTIONS = Set.of("get", "offers", "text", "ends", "person", "letters",
        "length", "wire", "count", "keeps", "word");
    private static final int MARK = 42;
    private static int looked, wrong;

    private final String name;
    private final int seed;
    private final RatchetDesk desk;
    private final Model model;
    private final List<Replay.Call> made = new ArrayList<>();
    private final List<Replay.Call> refused = new ArrayList<>();
    private Base base;
    private int calls;

    /** What is seen without the refused calls; kept, as many of these stand behind the same calls. */
    private record Base(int calls, List<Replay.Call> questions, List<String> answers, List<List<Replay.Call>> plays,
            List<List<String>> played) {
        static Base of(Replay replay, int calls) {
            List<Replay.Call> questions = replay.everyQuestion();
            List<List<Replay.Call>> plays = replay.plays();
            List<List<String>> played = plays.stream().map(play -> replay.answers(fitting(play, calls))).toList();
            return new Base(calls, questions, replay.answers(questions), plays, played);
        }
    }

    /** So much of a play as one object is good for behind some calls. */
    private static List<Replay.Call> fitting(List<Replay.Call> play, int calls) {
        return play.subList(0, Math.min(play.size(), Replay.MOST_CALLS - calls));
    }

    Both(String name, int seed) {
        this.name = name;
        this.seed = seed;
        desk = new RatchetDesk(seed);
        model = new Model(seed);
    }

    /** What the desk answers, after it was held against what the model answers. */
    String call(String method, Object... args) {
        if (!QUESTIONS.contains(method)) {
            made.add(new Replay.Call(method, args));
        }
        return ask(method, args);
    }

    private String ask(String method, Object... args) {
        calls++;
        String got = Replay.outcome(REAL.get(method), desk, args);
        String want = Replay.outcome(MODEL.get(method), model, args);
        hold(name + ", call " + calls + ": " + method + Arrays.toString(args), got, want);
        hold(name + ": at most " + Replay.MOST_CALLS + " calls", calls <= Replay.MOST_CALLS ? "yes" : "no", "yes");
        return got;
    }

    /** The same, where the answer is known beforehand. */
    void due(Object want, String method, Object... args) {
        told(want, call(method, args), method, args);
    }

    private void told(Object want, String got, String method, Object... args) {
        hold(name + ", call " + calls + " (told): " + method + Arrays.toString(args), got, want.toString());
    }

    /** A call that must change nothing; whether it did is seen by unchanged(). */
    void refuse(Object want, String method, Object... args) {
        refused.add(new Replay.Call(method, args));
        told(want, ask(method, args), method, args);
    }

    /** Nothing can be seen, nor comes out later, that would not have without the refused calls. */
    void unchanged() {
        if (base == null || base.calls != made.size()) {
            base = Base.of(new Replay(seed, made), made.size());
        }
        List<Replay.Call> all = new ArrayList<>(made);
        all.addAll(refused);
        Replay with = new Replay(seed, all);
        holdAll(with.answers(base.questions), base.answers);
        for (int i = 0; i < base.plays.size(); i++) {
            holdAll(with.answers(fitting(base.plays.get(i), all.size())), base.played.get(i));
        }
        refused.clear();
    }

    private void holdAll(List<String> got, List<String> want) {
        for (int i = 0; i < got.size(); i++) {
            hold(name + ", all is as it was behind a refused call", got.get(i), want.get(i));
        }
    }

    /** A call that must change nothing, and nothing else did since the last one. */
    void refuseAlone(Object want, String method, Object... args) {
        refuse(want, method, args);
        unchanged();
    }

    int callsLeft() {
        return Replay.MOST_CALLS - calls;
    }

    int number(String method, Object... args) {
        String got = call(method, args);
        return got.startsWith("throws.") ? Integer.MIN_VALUE : (int) Long.parseLong(got);
    }

    /** All that can be seen of an end but for its letters: 27 calls. */
    String look(int end) {
        StringBuilder seen = new StringBuilder();
        for (int what = 0; what < 5; what++) {
            for (int part = 0; part < 4; part++) {
                seen.append(call("word", end, what, part)).append(' ');
            }
        }
        for (int what = 0; what < 4; what++) {
            seen.append(call("count", end, what)).append(' ');
        }
        seen.append(call("text", end)).append(' ');
        seen.append(call("person", end, false)).append(' ').append(call("person", end, true));
        return seen.toString();
    }

    /** The number of a letter like another one but for some bytes: place, value, place, value .. */
    int change(int letter, int... changes) {
        int like = letter;
        for (int i = 0; i < changes.length; i += 2) {
            like = number("forge", like, changes[i], changes[i + 1]);
        }
        return like;
    }

    /** The same, with the mark by which an end opens it: as of one who knows the end's keys. */
    int craft(int end, int letter, int... changes) {
        int like = change(letter, changes);
        return stamp(like, model.markAt(end, like));
    }

    /** The same, with the mark by which a person answers it. */
    int craftFirst(int person, int letter, int... changes) {
        int like = change(letter, changes);
        return stamp(like, model.markFor(person, like));
    }

    private int stamp(int letter, byte[] mark) {
        int like = letter;
        for (int i = 0; i < mark.length; i++) {
            like = number("forge", like, MARK + i, mark[i] & 255);
        }
        return like;
    }

    static void hold(String what, String got, String want) {
        looked++;
        if (!got.equals(want)) {
            wrong++;
            if (wrong <= 40) {
                System.out.println(what + " answered " + got + ", due is " + want);
            }
        }
    }

    static void end() {
        System.out.println(looked + " answers held, " + wrong + " not as due");
        if (wrong != 0 || looked == 0) {
            System.exit(1);
        }
    }
}
