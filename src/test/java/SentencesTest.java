import java.io.IOException;
import java.nio.file.Files;
import java.nio.file.Path;
import java.util.ArrayList;
import java.util.List;
import java.util.regex.Matcher;
import java.util.regex.Pattern;
import java.util.stream.Stream;

/** Each term and each promise of the document has a sentence that a test quotes. */
public final class SentencesTest {
    private static final Due due = new Due("SentencesTest");
    private static final Pattern QUOTE = Pattern.compile("due\\.sentence\\(\"([^\"]*)\"\\)");
    private static final int PROMISES = 39;
    private static final int TERMS = 5;

    public static void main(String[] args) throws IOException {
        List<String> quotes = quotes();
        due.yes("sentences are quoted", quotes.size() >= PROMISES);
        String document = Due.documentText();
        if (!document.isEmpty()) {
            everyPromise(document, quotes);
        }
        due.end();
    }

    private static void everyPromise(String document, List<String> quotes) {
        String[] promises = document.split(" ## Promise ");
        due.is("promises", promises.length - 1, PROMISES);
        for (int k = 1; k < promises.length; k++) {
            due.yes("promise " + k + " has a test", hasOne(promises[k], quotes));
        }
        String[] terms = promises[0].substring(promises[0].indexOf(" ## Terms")).split(" (?=\\d\\. [A-Z])");
        due.is("terms", terms.length - 1, TERMS);
        for (int k = 1; k < terms.length; k++) {
            due.yes("term " + k + " has a test", hasOne(terms[k], quotes));
        }
    }

    private static List<String> quotes() throws IOException {
        List<String> quotes = new ArrayList<>();
        try (Stream<Path> files = Files.list(Path.of("src/test/java"))) {
            for (Path file : files.sorted().toList()) {
                Matcher quote = QUOTE.matcher(Files.readString(file));
                while (quote.find()) {
                    quotes.add(quote.group(1));
                }
            }
        }
        return quotes;
    }

    private static boolean hasOne(String section, List<String> quotes) {
        return quotes.stream().anyMatch(section::contains);
    }
}
