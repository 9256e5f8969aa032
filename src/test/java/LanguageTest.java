import java.nio.file.Files;
import java.nio.file.Path;
import java.util.List;
import java.util.regex.Matcher;
import java.util.regex.Pattern;

/** What of LANGUAGE.md can be seen in the text of the class: words it rules out, and lengths. */
public final class LanguageTest {
    private static final Path CLASS = Path.of("src/main/java/NeedleHomes.java");
    private static final List<String> RULED_OUT = List.of("throw", "throws", "try", "catch", "finally", "synchronized",
            "assert", "volatile", "native", "transient", "strictfp", "package", "protected", "\\w+Exact", "Random", "Thread",
            "Runtime", "nanoTime", "currentTimeMillis", "println", "hashCode", "toString", "equals", "Object", "var",
            "double", "float");

    public static void main(String[] args) throws Exception {
        String code = withoutComments(Files.readString(CLASS));
        for (String word : RULED_OUT) {
            Due.no("the class says " + word, Pattern.compile("\\b" + word + "\\b").matcher(code).find());
        }
        Due.no("lambda", code.contains("->"));
        Due.no("method reference", code.contains("::"));
        Due.no("a sign that is no plain one", code.chars().anyMatch(c -> c > 126 || c < 32 && c != '\n'));
        usesNoOtherLibrary(code);
        staysSmall(code);
        Due.end();
    }

    private static String withoutComments(String text) {
        return text.replaceAll("(?s)/\\*.*?\\*/", "").replaceAll("//[^\\n]*", "");
    }

    private static void usesNoOtherLibrary(String code) {
        Matcher imports = Pattern.compile("^import (.*);$", Pattern.MULTILINE).matcher(code);
        while (imports.find()) {
            Due.yes("import " + imports.group(1), List.of("java.util.Arrays", "java.util.ArrayList", "java.util.List")
                    .contains(imports.group(1)));
        }
        Matcher calls = Pattern.compile("\\b(System|Arrays|Integer|Long|Math|String)\\.(\\w+)").matcher(code);
        while (calls.find()) {
            Due.yes("library " + calls.group(), List.of("System.arraycopy", "Arrays.copyOf", "Arrays.fill",
                    "Integer.bitCount", "Math.max", "Math.min", "Math.abs").contains(calls.group()));
        }
        Due.no("java. by its whole name", code.replaceAll("import .*", "").contains("java."));
    }

    private static void staysSmall(String code) {
        Matcher classes = Pattern.compile("\\bclass \\w+").matcher(code);
        int many = 0;
        while (classes.find()) {
            many++;
        }
        Due.yes(many + " classes", many <= 12);
        String[] lines = code.split("\n");
        int begun = -1;
        for (int i = 0; i < lines.length; i++) {
            if (lines[i].matches(" {4}( {4})?\\S.*\\) \\{")) {
                begun = i;
            } else if (begun >= 0 && lines[i].matches(" {4}( {4})?\\}") && indent(lines[i]) == indent(lines[begun])) {
                Due.yes(lines[begun] + " has " + (i - begun + 1) + " lines", i - begun + 1 <= 60);
                Due.yes(lines[begun] + " has seven parameters at most", lines[begun].split(",").length <= 7);
                begun = -1;
            }
        }
    }

    private static int indent(String line) {
        return line.length() - line.stripLeading().length();
    }
}
