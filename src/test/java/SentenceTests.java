import java.io.IOException;
import java.nio.file.Files;
import java.nio.file.Path;
import java.util.regex.Matcher;
import java.util.regex.Pattern;

/** Asks that src/test/SENTENCES.md quotes all that the document says, and that the tests it names are there. */
public final class SentenceTests {
    private static final Path SENTENCES = Path.of("src/test/SENTENCES.md");
    private static final Path DOCUMENT = Path.of("../shared/DOC.md");
    private static final Pattern QUOTE_AND_TESTS = Pattern.compile("(?m)^> (.+)\n\n((?:\\w+\\.\\w+[ \n])+)$");

    private static int checks = 0;
    private static int wrong = 0;

    private SentenceTests() {
    }

    private static void must(String what, boolean holds) {
        checks++;
        if (!holds) {
            wrong++;
            System.out.println("wrong: " + what);
        }
    }

    /** What the document says of the class, without its headings, its face and the calls that promises begin with. */
    private static String saidBy(String document) {
        int end = document.indexOf("## Not promised");
        String body = end < 0 ? document : document.substring(0, end);
        body = body.replaceAll("(?ms)^```java\n.*?^```$", "").replaceAll("(?m)^(#|```).*$", "");
        body = body.replaceAll("(?m)^`[^`]*`: ", "").replaceAll("(?m)^[IV]+\\. ", "");
        return body.replaceAll("\\s+", " ").trim();
    }

    private static boolean isThere(String test) throws IOException {
        Path file = Path.of("src/test/java", test.substring(0, test.indexOf('.')) + ".java");
        String declared = "static void " + test.substring(test.indexOf('.') + 1) + "(";
        return Files.exists(file) && Files.readString(file).contains(declared);
    }

    public static void main(String[] args) throws IOException {
        String sentences = Files.readString(SENTENCES);
        String left = saidBy(Files.readString(DOCUMENT));
        Matcher quotes = QUOTE_AND_TESTS.matcher(sentences);
        int count = 0;
        while (quotes.find()) {
            count++;
            int at = left.indexOf(quotes.group(1));
            must("the document says: " + quotes.group(1), at >= 0);
            left = at < 0 ? left : left.substring(0, at) + left.substring(at + quotes.group(1).length());
            for (String test : quotes.group(2).trim().split("\\s+")) {
                must("there is a test " + test, isThere(test));
            }
        }
        must("each quote has tests", count == sentences.lines().filter(line -> line.startsWith(">")).count());
        must("no sentence is without tests: " + left.trim(), left.isBlank());
        System.out.println(count + " sentences with their tests, " + checks + " checks, " + wrong + " of them wrong");
        if (wrong != 0) {
            System.exit(1);
        }
    }
}
