import java.io.File;
import java.io.IOException;
import java.lang.reflect.Method;
import java.lang.reflect.Modifier;
import java.net.URL;
import java.net.URLClassLoader;
import java.nio.file.Files;
import java.nio.file.Path;
import java.util.ArrayList;
import java.util.List;
import java.util.regex.Matcher;
import java.util.regex.Pattern;
import javax.tools.ToolProvider;

/** The run of calls in README.md, as it is written there; it runs from the project's folder. */
public final class ReadmeTest {
    /** A call whose answer may get a name, and behind it what it answers, or the exception that it throws. */
    private static final Pattern CALL =
            Pattern.compile("(int (\\w+) = )?(lane\\.(\\w+)\\(.*\\)); +// (throws )?(-?\\w+)(: .*)?");
    private static final String MADE = "PressbrakeLane lane = new PressbrakeLane();";
    private static final String RUN = "ReadmeRun";

    private static final Due DUE = new Due("ReadmeTest");

    public static void main(String[] args) throws IOException, ReflectiveOperationException {
        List<String> readme = Files.readAllLines(Path.of("README.md"));
        List<String> called = new ArrayList<>();
        runProgram(program(block(readme), called));
        String table = String.join("\n", readme);
        for (Method method : PressbrakeLane.class.getDeclaredMethods()) {
            if (Modifier.isPublic(method.getModifiers())) {
                DUE.note(called.contains(method.getName()), "the run does not call " + method.getName());
                DUE.note(table.contains("| `" + method.getName() + "("), "the table has no " + method.getName());
            }
        }
        DUE.end();
    }

    private static List<String> block(List<String> readme) {
        int begin = readme.indexOf("```java");
        if (begin < 0) {
            DUE.note(false, "README.md has no run of calls");
            return List.of();
        }
        List<String> behind = readme.subList(begin + 1, readme.size());
        int end = behind.indexOf("```");
        return end < 0 ? behind : behind.subList(0, end);
    }

    private static String program(List<String> block, List<String> called) {
        StringBuilder program = new StringBuilder("public final class " + RUN + " {\n")
                .append("static void due(String call, long due, long got) { due(call, \"\" + due, \"\" + got); }\n")
                .append("static void due(String call, boolean due, boolean got)")
                .append(" { due(call, \"\" + due, \"\" + got); }\n")
                .append("static void due(String call, String due, String got) { ReadmeTest.note(call, due, got); }\n")
                .append("public static void run() {\n");
        for (String line : block) {
            Matcher call = CALL.matcher(line);
            if (call.matches()) {
                called.add(call.group(4));
                program.append(call.group(5) == null ? answer(call) : refusal(call)).append('\n');
            } else if (line.equals(MADE)) {
                program.append(line).append('\n');
            } else {
                DUE.note(line.isEmpty() || line.startsWith("// "), "a line without an answer: " + line);
            }
        }
        return program.append("}\n}\n").toString();
    }

    private static String answer(Matcher call) {
        String due = call.group(6);
        String value = due.matches("[A-Z]+") ? "PressbrakeLane." + due : due;
        String kept = call.group(1) == null ? "" : call.group(1) + call.group(3) + "; ";
        String got = call.group(1) == null ? call.group(3) : call.group(2);
        return kept + "due(\"" + call.group(3) + "\", " + value + ", " + got + ");";
    }

    private static String refusal(Matcher call) {
        String due = "due(\"" + call.group(3) + "\", \"" + call.group(6) + "\", ";
        return "try { " + call.group(3) + "; " + due + "\"no exception\"); } catch (RuntimeException e) { "
                + due + "e.getClass().getSimpleName()); }";
    }

    private static void runProgram(String program) throws IOException, ReflectiveOperationException {
        Path folder = Files.createTempDirectory("readme");
        Path file = folder.resolve(RUN + ".java");
        try {
            Files.writeString(file, program);
            int failed = ToolProvider.getSystemJavaCompiler().run(null, null, null,
                    "-cp", System.getProperty("java.class.path"), "-d", folder.toString(), file.toString());
            DUE.note(failed == 0, "the run of README.md does not compile");
            if (failed == 0) {
                callRun(folder);
            }
        } finally {
            for (File made : folder.toFile().listFiles()) {
                made.delete();
            }
            Files.delete(folder);
        }
    }

    private static void callRun(Path folder) throws IOException, ReflectiveOperationException {
        try (URLClassLoader loader = new URLClassLoader(new URL[] {folder.toUri().toURL()})) {
            loader.loadClass(RUN).getMethod("run").invoke(null);
        }
    }

    /** Public as the run has another class loader. */
    public static void note(String call, String due, String got) {
        DUE.note(due.equals(got), "README.md: " + call + " answered " + got + ", it says " + due);
    }
}
