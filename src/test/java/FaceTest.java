import java.lang.reflect.Constructor;
import java.lang.reflect.Field;
import java.lang.reflect.Method;
import java.lang.reflect.Modifier;
import java.util.Arrays;
import java.util.List;
import java.util.TreeSet;
import java.util.stream.Collectors;
import java.util.stream.Stream;

/** The public face: each member with its types and throws clause, and nothing else that can be seen. */
public final class FaceTest {
    private static final String INDEX = " throws IndexOutOfBoundsException";
    private static final String ARGUMENT = ", IllegalArgumentException";
    private static final String STATE = ", IllegalStateException";
    static final List<String> FACE = List.of(
        "RatchetDesk(int)",
        "int OPENED = 0", "int OLD = -1", "int FAR = -2", "int WRONG = -3", "int NONE = -1",
        "void put(int, int, long)" + INDEX,
        "long get(int, int)" + INDEX,
        "void agree(int, int, int)" + INDEX,
        "void mac(int, int, int)" + INDEX,
        "void digest(int, int)" + INDEX,
        "int stock(int)" + INDEX + STATE,
        "int offers(int)" + INDEX,
        "int begin(int, int)" + INDEX + ARGUMENT + STATE,
        "int send(int, long)" + INDEX + STATE,
        "int forge(int, int, int)" + INDEX + ARGUMENT + STATE,
        "int answer(int, int)" + INDEX + STATE,
        "int open(int, int)" + INDEX,
        "long text(int)" + INDEX,
        "int ends()",
        "int person(int, boolean)" + INDEX,
        "int letters()",
        "int length(int)" + INDEX,
        "int wire(int, int)" + INDEX,
        "int count(int, int)" + INDEX,
        "boolean keeps(int, int)" + INDEX,
        "long word(int, int, int)" + INDEX);

    public static void main(String[] args) throws IllegalAccessException {
        TreeSet<String> seen = new TreeSet<>();
        Class<RatchetDesk> type = RatchetDesk.class;
        for (Constructor<?> c : type.getDeclaredConstructors()) {
            seen.add(unlessPublic(c.getModifiers()) + "RatchetDesk" + types(c.getParameterTypes(), "(", ")")
                + types(c.getExceptionTypes(), " throws ", ""));
        }
        for (Field f : type.getDeclaredFields()) {
            if (!Modifier.isPrivate(f.getModifiers()) && !f.isSynthetic()) {
                seen.add(unlessPublic(f.getModifiers()) + f.getType().getSimpleName() + " " + f.getName() + " = "
                    + f.get(null));
            }
        }
        for (Method m : type.getDeclaredMethods()) {
            if (!Modifier.isPrivate(m.getModifiers()) && !m.isSynthetic()) {
                seen.add(unlessPublic(m.getModifiers()) + m.getReturnType().getSimpleName() + " " + m.getName()
                    + types(m.getParameterTypes(), "(", ")") + types(m.getExceptionTypes(), " throws ", ""));
            }
        }
        Both.hold("the face", seen.toString(), new TreeSet<>(FACE).toString());
        Both.hold("the class", Modifier.toString(type.getModifiers()), "public final");
        for (Field f : type.getDeclaredFields()) {
            if (Modifier.isStatic(f.getModifiers())) {
                Both.hold("static " + f.getName(), Modifier.isFinal(f.getModifiers()) ? "final" : "not", "final");
            }
        }
        namesInside(type);
        Both.end();
    }

    /** Rule 1: no private method bears the name of a public one; classes inside are static and not to be seen. */
    private static void namesInside(Class<?> type) {
        TreeSet<String> faceNames = Arrays.stream(type.getDeclaredMethods())
            .filter(m -> Modifier.isPublic(m.getModifiers())).map(Method::getName)
            .collect(Collectors.toCollection(TreeSet::new));
        Stream.concat(Stream.of(type), Arrays.stream(type.getDeclaredClasses()))
            .flatMap(c -> Arrays.stream(c.getDeclaredMethods())).filter(m -> Modifier.isPrivate(m.getModifiers()))
            .forEach(m -> Both.hold(m + " bears a name of the face", "" + faceNames.contains(m.getName()), "false"));
        for (Class<?> c : type.getDeclaredClasses()) {
            boolean plain = Modifier.isStatic(c.getModifiers()) && !Modifier.isPublic(c.getModifiers())
                && !Modifier.isProtected(c.getModifiers());
            Both.hold("class " + c.getSimpleName(), plain ? "static, not to be seen" : "other", "static, not to be seen");
        }
    }

    private static String unlessPublic(int modifiers) {
        return Modifier.isPublic(modifiers) ? "" : "not public: ";
    }

    private static String types(Class<?>[] types, String before, String after) {
        String all = Arrays.stream(types).map(Class::getSimpleName).collect(Collectors.joining(", "));
        return all.isEmpty() && after.isEmpty() ? "" : before + all + after;
    }
}
