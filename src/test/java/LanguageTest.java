import java.io.IOException;
import java.lang.reflect.Field;
import java.lang.reflect.Method;
import java.lang.reflect.Modifier;
import java.nio.file.Files;
import java.nio.file.Path;
import java.util.List;
import java.util.regex.Matcher;
import java.util.regex.Pattern;

/** What of LANGUAGE.md can be seen in the text of the program; it runs from the project's folder. */
public final class LanguageTest {
    private static final String[] RULED_OUT = {
        "^\\s*(import|package)\\b", "->", "::", "\\bfinally\\b", "\\bsynchronized\\b", "\\bassert\\b", "\\btry\\b",
        "\\bcatch\\b", "static\\s*\\{", "Exact\\(", "\\bSystem\\.(?!arraycopy)", "\\bThread\\b", "\\bRandom\\b",
        "\"\\s*\\+", "\\+\\s*\"", "\\bequals\\(", "\\bhashCode\\(", "\\btoString\\(", "\\bObject\\b",
        "\\bdouble\\b", "\\bfloat\\b",
        "[^\\x00-\\x7f]", "\\bMath\\.(?!min\\(|max\\()", "\\b(Integer|Long|Arrays|List)\\b",
    };
    private static final Pattern THROWN = Pattern.compile("throw (.*)");
    private static final Pattern ALLOWED = Pattern.compile(
            "new (IllegalStateException|IllegalArgumentException|IndexOutOfBoundsException)\\(\"[ -~]*\"\\);");
    private static final Pattern METHOD = Pattern.compile(
            "^ {4}( {4})?((private|public|static) )*(int|long|boolean|void|[A-Z]\\w*)( \\w+)?\\(.*[{)]$");
    private static final Pattern NESTED = Pattern.compile("^ +.*\\b(class|record|enum|interface) \\w+.*\\{");

    private static final Due DUE = new Due("LanguageTest");

    public static void main(String[] args) throws IOException {
        List<String> lines = Files.readAllLines(Path.of("src/main/java/PressbrakeLane.java"));
        int nested = 0;
        for (String line : lines) {
            String code = line.replaceAll("//.*", "").replaceAll("^\\s*/?\\*.*", "");
            for (String ruledOut : RULED_OUT) {
                DUE.note(!Pattern.compile(ruledOut).matcher(code).find(), "ruled out: " + line);
            }
            Matcher thrown = THROWN.matcher(code);
            DUE.note(!thrown.find() || ALLOWED.matcher(thrown.group(1)).matches(), "thrown otherwise: " + line);
            if (NESTED.matcher(code).find()) {
                nested++;
                DUE.note(code.contains("private static final class"), "a class inside is not so: " + line);
            }
        }
        DUE.note(nested <= 11, nested + " classes inside");
        checkMethods(lines);
        checkShape(PressbrakeLane.class);
        for (Class<?> inner : PressbrakeLane.class.getDeclaredClasses()) {
            checkShape(inner);
        }
        DUE.end();
    }

    private static void checkMethods(List<String> lines) {
        int seen = 0;
        for (int i = 0; i < lines.size(); i++) {
            String line = lines.get(i);
            if (!METHOD.matcher(line).matches()) {
                continue;
            }
            seen++;
            String indent = line.substring(0, line.length() - line.stripLeading().length());
            int end = i;
            while (end < lines.size() && !lines.get(end).equals(indent + "}")) {
                end++;
            }
            DUE.note(end - i < 60, "a method of " + (end - i) + " lines: " + line);
        }
        DUE.note(seen > 60, "only " + seen + " methods were seen");
    }

    private static void checkShape(Class<?> of) {
        for (Method method : of.getDeclaredMethods()) {
            DUE.note(method.getParameterCount() <= 7, "more than seven parameters: " + method);
        }
        int fields = 0;
        for (Field field : of.getDeclaredFields()) {
            fields += Modifier.isStatic(field.getModifiers()) ? 0 : 1;
        }
        DUE.note(fields <= 20, of + " has " + fields + " fields");
    }
}
