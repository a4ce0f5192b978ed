import java.io.IOException;
import java.net.URL;
import java.net.URLClassLoader;
import java.nio.file.Files;
import java.nio.file.Path;
import java.util.ArrayList;
import java.util.Arrays;
import java.util.List;
import java.util.TreeSet;
import java.util.regex.Matcher;
import java.util.regex.Pattern;
import java.util.stream.Collectors;
import javax.tools.ToolProvider;

/** README.md: its examples answer what they say, and its tables have the whole face with all that is thrown. */
public final class ReadmeTest {
    private static final Path README = Path.of("README.md");
    private static final Pattern EXAMPLE = Pattern.compile("```java\n(.*?)```", Pattern.DOTALL);
    // [declaration =] call; // -> answer[: remark]
    private static final Pattern TOLD = Pattern.compile("\\s*(?:(\\w+ \\w+) = )?(.*);\\s*// -> ([^:]*)(:.*)?");
    private static final Pattern CALL = Pattern.compile("(?:(\\w+) )?(\\w+)\\((.*)\\)");
    private static final Pattern CONSTANT = Pattern.compile("`(\\w+)` \\((-?\\d+)\\)");
    private static final Pattern EXCEPTION = Pattern.compile("\\w+Exception");

    public static void main(String[] args) throws IOException, ReflectiveOperationException {
        String readme = Files.readString(README);
        examples(readme);
        tables(readme);
        Both.end();
    }

    private static void examples(String readme) throws IOException, ReflectiveOperationException {
        List<String> bodies = EXAMPLE.matcher(readme).results().map(found -> found.group(1)).toList();
        Both.hold("there are examples", "" + !bodies.isEmpty(), "true");
        Path folder = Files.createTempDirectory("readme");
        for (int i = 0; i < bodies.size(); i++) {
            Path source = folder.resolve("Example" + i + ".java");
            Files.writeString(source, program("Example" + i, bodies.get(i)));
            int failed = ToolProvider.getSystemJavaCompiler().run(null, null, null, "-d", folder.toString(), "-cp",
                System.getProperty("java.class.path"), source.toString());
            Both.hold("example " + i + " compiles", "" + failed, "0");
            if (failed == 0) {
                run(folder, "Example" + i);
            }
        }
        try (var files = Files.list(folder)) {
            files.forEach(file -> file.toFile().delete());
        }
        Files.delete(folder);
    }

    @SuppressWarnings("unchecked")
    private static void run(Path folder, String name) throws IOException, ReflectiveOperationException {
        try (URLClassLoader loader = new URLClassLoader(new URL[] {folder.toUri().toURL()})) {
            Object told = loader.loadClass(name).getMethod("run").invoke(null);
            for (String[] one : (List<String[]>) told) {
                Both.hold("README.md, " + name + ": " + one[0], one[1], one[2]);
            }
        }
    }

    /** A class whose run() answers line, answer and due answer for each line that tells one. */
    private static String program(String name, String body) {
        StringBuilder lines = new StringBuilder();
        for (String line : body.split("\n")) {
            lines.append(held(line)).append('\n');
        }
        String constants = Arrays.stream(new String[] {"OPENED", "OLD", "FAR", "WRONG", "NONE"})
            .map(c -> c + " = RatchetDesk." + c).collect(Collectors.joining(", "));
        return "public final class " + name + " {\n"
            + "private static final int " + constants + ";\n"
            + "private static final java.util.List<String[]> TOLD = new java.util.ArrayList<>();\n"
            + "private static void told(String line, Object got, Object due) {\n"
            + "TOLD.add(new String[] {line, got.toString(), due.toString()});\n}\n"
            + "public static java.util.List<String[]> run() {\n" + lines + "return TOLD;\n}\n}\n";
    }

    private static String held(String line) {
        Matcher told = TOLD.matcher(line);
        if (!told.matches()) {
            return line;
        }
        String text = '"' + line.strip().replace("\\", "\\\\").replace("\"", "\\\"") + '"';
        String declared = told.group(1), call = told.group(2), due = told.group(3).strip();
        if (due.startsWith("throws ")) {
            return "try { %s; told(%s, \"nothing\", \"%s\"); }".formatted(call, text, due)
                + " catch (RuntimeException e) { told(%s, \"throws \" + e.getClass().getSimpleName(), \"%s\"); }"
                    .formatted(text, due);
        }
        if (declared != null) {
            String variable = declared.split(" ")[1];
            return declared + " = " + call + "; told(" + text + ", " + variable + ", " + due + ");";
        }
        return "told(" + text + ", " + call + ", " + due + ");";
    }

    private static void tables(String readme) {
        List<String> told = new ArrayList<>();
        for (String line : readme.split("\n")) {
            String[] cells = line.split("\\|", -1);
            if (cells.length == 6 && cells[1].strip().startsWith("`")) {
                told.add(callTold(cells));
            } else if (cells.length == 4 && CONSTANT.matcher(cells[1].strip()).matches()) {
                told.add(CONSTANT.matcher(cells[1].strip()).replaceAll("int $1 = $2"));
                Both.hold("something is told of" + cells[1], "" + cells[2].isBlank(), "false");
            }
        }
        Both.hold("the tables tell each call and constant once", "" + told.size(), "" + new TreeSet<>(told).size());
        Both.hold("the tables tell the face", new TreeSet<>(told).toString(), new TreeSet<>(FaceTest.FACE).toString());
    }

    /** As FaceTest writes it: answer, name, types and exceptions, in the order in which they are told. */
    private static String callTold(String[] cells) {
        Matcher call = CALL.matcher(cells[1].strip().replace("`", ""));
        Both.hold("a call is told:" + cells[1], "" + call.matches(), "true");
        String types = Arrays.stream(call.group(3).split(", ")).map(p -> p.split(" ")[0])
            .collect(Collectors.joining(", "));
        String thrown = EXCEPTION.matcher(cells[4]).results().map(e -> e.group()).collect(Collectors.joining(", "));
        Both.hold("what it is given is told:" + cells[1], "" + cells[2].isBlank(), "" + types.isEmpty());
        Both.hold("what it answers is told:" + cells[1], "" + cells[3].isBlank(), "false");
        for (String one : cells[4].split(";")) {
            Both.hold("when it throws is told:" + one, "" + (one.isBlank() || one.matches(".*Exception`: .+")), "true");
        }
        return (call.group(1) == null ? "" : call.group(1) + " ") + call.group(2) + "(" + types + ")"
            + (thrown.isEmpty() ? "" : " throws " + thrown);
    }
}
