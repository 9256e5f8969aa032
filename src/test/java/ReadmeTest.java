import java.lang.reflect.Method;
import java.lang.reflect.Modifier;
import java.net.URL;
import java.net.URLClassLoader;
import java.nio.file.Files;
import java.nio.file.Path;
import java.util.ArrayList;
import java.util.Arrays;
import java.util.HashMap;
import java.util.List;
import java.util.Map;
import java.util.regex.Matcher;
import java.util.regex.Pattern;
import javax.tools.ToolProvider;

/** What README.md shows is what the class answers. */
public final class ReadmeTest {
    private static final Pattern BLOCK = Pattern.compile("```java\n(.*?)```", Pattern.DOTALL);
    /** A call, perhaps with a name for its answer, and that answer behind it. */
    private static final Pattern ANSWERED =
            Pattern.compile("(?:int (\\w+) = )?(homes\\.\\w+\\(.*?\\));\\s*// = (-?\\w+).*");
    private static final Pattern ROW =
            Pattern.compile("^\\| `(\\w+)` \\| [^|]+ \\| (\\d+) \\| ([^|]+) \\|$", Pattern.MULTILINE);
    private static final Pattern LAST_CODE = Pattern.compile(".*`([^`]+)`[^`]*");

    public static void main(String[] args) throws Exception {
        String readme = Files.readString(Path.of("README.md"));
        itsLinesAnswerAsShown(readme);
        itsTableIsOfTheFace(readme);
        itSaysHowLongAnObjectIsUsed(readme);
        Due.end();
    }

    private static void itsLinesAnswerAsShown(String readme) throws Exception {
        List<String> blocks = new ArrayList<>();
        Matcher m = BLOCK.matcher(readme);
        while (m.find()) {
            blocks.add(m.group(1));
        }
        Due.is("blocks of README.md", blocks.size(), 2);
        StringBuilder code = new StringBuilder("public final class Shown {\n").append(blocks.get(0))
                .append("public static java.util.List<Object> answers() {\n")
                .append("java.util.List<Object> all = new java.util.ArrayList<>();\n");
        List<String> shown = new ArrayList<>();
        for (String line : blocks.get(1).split("\n")) {
            Matcher answered = ANSWERED.matcher(line);
            boolean is = answered.matches();
            Due.yes("has the form of a call with its answer: " + line, is || !line.contains("// ="));
            if (is) {
                shown.add(answered.group(2) + " answers " + answered.group(3));
            }
            code.append(is ? kept(answered.group(1), answered.group(2)) : line).append('\n');
        }
        Due.yes("README.md shows answers", shown.size() > 20);
        compare(shown, run(code.append("return all;\n}\n}\n").toString()));
    }

    private static String kept(String name, String call) {
        return name == null ? "all.add(" + call + ");" : "int " + name + " = " + call + "; all.add(" + name + ");";
    }

    private static void compare(List<String> shown, List<?> answers) {
        Due.is("answers", answers.size(), shown.size());
        for (int i = 0; i < shown.size() && i < answers.size(); i++) {
            Due.yes("README.md shows " + shown.get(i) + ", but it was " + answers.get(i),
                    shown.get(i).endsWith(" answers " + answers.get(i)));
        }
    }

    /** The class is made by a loader of its own: it sees the public class alone, as any user does. */
    private static List<?> run(String code) throws Exception {
        Path at = Files.createTempDirectory("readme");
        Path file = at.resolve("Shown.java");
        try {
            Files.writeString(file, code);
            int status = ToolProvider.getSystemJavaCompiler().run(null, null, null,
                    "-cp", System.getProperty("java.class.path"), "-d", at.toString(), file.toString());
            Due.is("compiling what README.md shows", status, 0);
            if (status != 0) {
                return List.of();
            }
            try (URLClassLoader loader = new URLClassLoader(new URL[] {at.toUri().toURL()})) {
                return (List<?>) loader.loadClass("Shown").getMethod("answers").invoke(null);
            }
        } finally {
            Files.deleteIfExists(at.resolve("Shown.class"));
            Files.deleteIfExists(file);
            Files.delete(at);
        }
    }

    private static void itsTableIsOfTheFace(String readme) throws Exception {
        Map<String, Method> face = new HashMap<>();
        for (Method method : NeedleHomes.class.getDeclaredMethods()) {
            if (Modifier.isPublic(method.getModifiers())) {
                face.put(method.getName(), method);
            }
        }
        int rows = 0;
        Matcher row = ROW.matcher(readme);
        while (row.find()) {
            rows++;
            String call = row.group(1);
            Due.yes(call + " is promise " + row.group(2),
                    Document.promise(Integer.parseInt(row.group(2))).startsWith(call + "\n"));
            Due.yes(call + " is of the face", face.containsKey(call));
            if (face.containsKey(call)) {
                Due.is(call + " of what can't be", refused(face.get(call)), shown(row.group(3)));
            }
        }
        Due.is("rows of the table", rows, face.size());
    }

    private static long shown(String refusal) {
        Matcher code = LAST_CODE.matcher(refusal);
        String last = code.matches() ? code.group(1) : "";
        return last.equals("NONE") ? NeedleHomes.NONE : last.equals("false") ? 0 : Long.parseLong(last);
    }

    /** The tape is full, so that feed, too, is refused. */
    private static long refused(Method call) throws Exception {
        NeedleHomes homes = new NeedleHomes();
        for (int twenty = 0; twenty < 20; twenty++) {
            homes.feed(0, 0, 0, 0, 0);
        }
        Object[] given = new Object[call.getParameterCount()];
        Arrays.fill(given, Integer.MIN_VALUE);
        for (int i = 0; i < given.length; i++) {
            given[i] = call.getParameterTypes()[i] == boolean.class ? Boolean.TRUE : given[i];
        }
        Object answer = call.invoke(homes, given);
        return answer instanceof Boolean is ? (is ? 1 : 0) : (Integer) answer;
    }

    private static void itSaysHowLongAnObjectIsUsed(String readme) {
        Due.words("An object is used for at most 512 calls");
        Due.yes("README.md says so", readme.contains("An object is used for at most 512 calls"));
    }
}
