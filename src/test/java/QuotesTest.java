import java.io.IOException;
import java.nio.file.DirectoryStream;
import java.nio.file.Files;
import java.nio.file.Path;
import java.util.ArrayList;
import java.util.List;
import java.util.regex.Matcher;
import java.util.regex.Pattern;

/** Each promise of the document has a test of its edges: some of its own words are quoted by one. */
public final class QuotesTest {
    private static final Path DOCUMENT = Path.of("..", "shared", "DOC.md");
    private static final Path TESTS = Path.of("src", "test", "java");
    private static final Pattern QUOTE = Pattern.compile("due\\.on\\(\"([^\"]*)\"\\)");
    private static final Pattern PROMISE = Pattern.compile("## Promise (\\d+): (.*?)(?=## )");
    private static final Due due = new Due("QuotesTest");

    public static void main(String[] args) throws IOException {
        String document = Files.readString(DOCUMENT).replaceAll("\\s+", " ");
        List<String> quotes = quotes();
        Matcher promise = PROMISE.matcher(document);
        int promises = 0;
        while (promise.find()) {
            promises++;
            boolean quoted = false;
            for (String quote : quotes) {
                quoted |= promise.group(2).contains(quote);
            }
            due.is("some words of promise " + promise.group(1) + " are quoted", quoted ? 1 : 0, 1);
        }
        due.is("promises", promises, 41);
        due.end();
    }

    private static List<String> quotes() throws IOException {
        List<String> quotes = new ArrayList<>();
        try (DirectoryStream<Path> files = Files.newDirectoryStream(TESTS, "*EdgesTest.java")) {
            for (Path file : files) {
                Matcher quote = QUOTE.matcher(Files.readString(file));
                while (quote.find()) {
                    quotes.add(quote.group(1));
                }
            }
        }
        return quotes;
    }
}
