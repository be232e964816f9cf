import java.io.IOException;
import java.nio.file.Files;
import java.nio.file.Path;
import java.util.ArrayList;
import java.util.List;
import java.util.regex.Matcher;
import java.util.regex.Pattern;
import java.util.stream.Stream;

/**
 * Each sentence of the document is the words of a test: what the tests quote (Check.words) stands in the
 * document, once, and together it is all that the document says from its terms on.
 */
public final class DocumentTest {
    private static final Check check = new Check("DocumentTest");
    private static final Path DOCUMENT = Path.of("../shared/DOC.md");
    private static final Path TESTS = Path.of("src/test/java");
    private static final Pattern QUOTE = Pattern.compile("\\bwords\\(\\s*((?:\"(?:[^\"\\\\]|\\\\.)*\"[\\s+]*)+)\\)");
    private static final Pattern STRING = Pattern.compile("\"((?:[^\"\\\\]|\\\\.)*)\"");
    private static final String USES = "An object is used for at most 512 calls after it has been made; what later calls answer is free.";

    public static void main(String[] args) throws IOException {
        String document = promised(Files.readString(DOCUMENT));
        boolean[] quoted = new boolean[document.length()];
        for (String quote : quotes()) {
            mark(document, quote, quoted);
        }
        StringBuilder left = new StringBuilder();
        for (int at = 0; at < document.length(); at++) {
            left.append(quoted[at] ? '\n' : document.charAt(at));
        }
        check.dueName("what no test quotes", left.toString().replaceAll("\\s+", " ").trim(), "");
        check.end();
    }

    private static String plain(String text) {
        return text.replaceAll("\\s+", " ").trim();
    }

    /** The document from its terms on, without its headings. */
    private static String promised(String whole) {
        int from = whole.indexOf("## Terms");
        int to = whole.indexOf("## Not promised");
        check.due("the document has terms, and an end", from >= 0 && to > from, true);
        check.due("how long an object is used", plain(whole).contains(USES), true);
        String text = whole.substring(Math.max(0, from), Math.max(from, to));
        return USES + " " + plain(text.replaceAll("(?m)^#.*$", " ").replaceAll("(?m)^```.*$", " ").replaceAll("==== I+\\.", " "));
    }

    private static List<String> quotes() throws IOException {
        List<String> found = new ArrayList<>();
        try (Stream<Path> files = Files.list(TESTS)) {
            for (Path file : files.sorted().toList()) {
                Matcher calls = QUOTE.matcher(Files.readString(file));
                while (calls.find()) {
                    StringBuilder quote = new StringBuilder();
                    Matcher strings = STRING.matcher(calls.group(1));
                    while (strings.find()) {
                        quote.append(strings.group(1));
                    }
                    found.add(plain(quote.toString()));
                }
            }
        }
        return found;
    }

    private static void mark(String document, String quote, boolean[] quoted) {
        int at = document.indexOf(quote);
        check.due("the document says '" + quote + "'", at >= 0, true);
        check.due("once: '" + quote + "'", document.lastIndexOf(quote), at);
        for (int n = Math.max(0, at); at >= 0 && n < at + quote.length(); n++) {
            quoted[n] = true;
        }
    }
}
