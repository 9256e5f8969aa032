import java.io.IOException;
import java.nio.file.Files;
import java.nio.file.Path;
import java.util.ArrayList;
import java.util.List;

/** The words of ../shared/DOC.md, by promise and by paragraph of terms. */
final class Document {
    static final int PROMISES = 35;
    static final int TERMS = 4;
    private static final String TEXT = read();

    private Document() {
    }

    private static String read() {
        try {
            return Files.readString(Path.of("../shared/DOC.md"));
        } catch (IOException e) {
            throw new IllegalStateException("tests run where .ci/run starts them", e);
        }
    }

    static String whole() {
        return TEXT;
    }

    private static String between(String begin, String end) {
        int from = TEXT.indexOf(begin);
        int to = from < 0 ? -1 : TEXT.indexOf(end, from + begin.length());
        return from < 0 || to < 0 ? "" : TEXT.substring(from + begin.length(), to);
    }

    static String promise(int number) {
        return between("\n## Promise " + number + ": ", "\n## ");
    }

    static String terms(int number) {
        return between("\n" + number + ". ", number == TERMS ? "\nThe constants" : "\n" + (number + 1) + ". ");
    }

    /** A dot ends a sentence, but not those of a range (0 .. 5). */
    static List<String> sentences(String text) {
        List<String> all = new ArrayList<>();
        for (String line : text.split("\n")) {
            boolean tells = line.startsWith("`") || line.startsWith("  ") || line.contains(". ") || line.endsWith(".");
            if (tells && !line.startsWith("```")) {
                all.addAll(List.of(line.strip().split("(?<![ .])\\. ")));
            }
        }
        return all;
    }
}
