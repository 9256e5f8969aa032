import java.io.IOException;
import java.nio.file.Files;
import java.nio.file.Path;
import java.util.ArrayList;
import java.util.List;
import java.util.regex.Matcher;
import java.util.regex.Pattern;

/** Each sentence of the promises and of the terms has a test that quotes words of it. */
public final class SentencesTest {
    private static final Path TESTS = Path.of("src/test/java");
    private static final String TEXT = "\"(?:[^\"\\\\]|\\\\.)*\"";
    private static final Pattern QUOTE =
            Pattern.compile("Due\\.(promise|terms)\\((\\d+),\\s*(" + TEXT + "(?:\\s*\\+\\s*" + TEXT + ")*)\\)");

    private record Quote(String kind, int number, String words) {
    }

    public static void main(String[] args) throws IOException {
        List<Quote> quotes = quotes();
        int many = 0;
        for (int number = 1; number <= Document.PROMISES; number++) {
            many += check(quotes, "promise", number, Document.sentences(Document.promise(number)));
        }
        Due.is("sentences of promises", many, 64);
        many = 0;
        for (int number = 1; number <= Document.TERMS; number++) {
            many += check(quotes, "terms", number, Document.sentences(Document.terms(number)));
        }
        Due.is("sentences of terms", many, 41);
        Due.end();
    }

    private static List<Quote> quotes() throws IOException {
        List<Quote> all = new ArrayList<>();
        try (var files = Files.list(TESTS)) {
            for (Path file : files.filter(f -> f.toString().endsWith("EdgesTest.java")).toList()) {
                Matcher m = QUOTE.matcher(Files.readString(file));
                while (m.find()) {
                    String words = m.group(3).replaceAll("\"\\s*\\+\\s*\"", "");
                    all.add(new Quote(m.group(1), Integer.parseInt(m.group(2)), words.substring(1, words.length() - 1)));
                }
            }
        }
        return all;
    }

    private static int check(List<Quote> quotes, String kind, int number, List<String> sentences) {
        for (String sentence : sentences) {
            boolean isQuoted = quotes.stream().anyMatch(q -> q.kind.equals(kind) && q.number == number
                    && sentence.contains(q.words.replaceAll("\\.$", "")));
            Due.yes(kind + " " + number + " is tested where it says: " + sentence, isQuoted);
        }
        Due.yes(kind + " " + number + " says something", !sentences.isEmpty());
        return sentences.size();
    }
}
