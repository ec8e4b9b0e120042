import java.io.IOException;
import java.nio.file.Files;
import java.nio.file.Path;
import java.util.ArrayList;
import java.util.Arrays;
import java.util.List;
import java.util.regex.Matcher;
import java.util.regex.Pattern;
import java.util.stream.Collectors;
import java.util.stream.Stream;

/**
 * Every sentence of the document, from "Terms" to the last promise, is quoted by a test: words that
 * no test quotes are told, so that none is left out when the document or the tests change.
 */
public final class QuoteTests {
    private static final Path DOCUMENT = Path.of("../shared/DOC.md");
    private static final Path TESTS = Path.of("src/test/java");
    private static final Pattern QUOTE = Pattern.compile("\\bsentence\\(((?:\\s*\"[^\"]*\"\\s*\\+?)+)\\)");
    private static final Pattern TEXT = Pattern.compile("\"([^\"]*)\"");

    /** Words that only lead to what is said behind them, and the calls' own lines. */
    private static final List<String> LEADING = List.of(
            "LEVELS.", "MEETING.", "PROBLEMS of a deployment:", "BUILDING OR RUNNING.", "MAKING an instance of a bean:",
            "DESTROYING an instance:", "CONTEXTS.", "The constants:", "What P becomes:", "BAD when", "or");

    private static int wrong = 0;

    public static void main(String[] args) throws IOException {
        if (!Files.isReadable(DOCUMENT)) {
            System.out.println("there is no " + DOCUMENT + " to look into");
            return;
        }
        String whole = Files.readString(DOCUMENT);
        String document = promised(whole);
        List<String> quotes = quotes();
        tellMisquoted(inOneLine(whole), quotes);
        boolean[] quoted = new boolean[document.length()];
        for (String quote : quotes) {
            mark(document, quote, quoted);
        }
        tellUnquoted(document, quoted);
        System.out.println(wrong == 0 ? quotes.size() + " quotes have every sentence" : wrong + " pieces are not as due");
        if (wrong != 0) {
            System.exit(1);
        }
    }

    /** The document from "Terms" to the last promise, in one line, without signs of its form. */
    private static String promised(String document) {
        int from = document.indexOf("## Terms") + "## Terms".length();
        int to = document.indexOf("## Not promised");
        return inOneLine(document.substring(from, to)
                .replaceAll("(?m)^## Promise.*$", " ")
                .replaceAll("(?m)^`[^`]*\\([^`]*\\)`:", " "));
    }

    private static String inOneLine(String text) {
        return text.replaceAll("```text|`", " ").replaceAll("\\s+", " ").replaceAll(" :", ":");
    }

    private static List<String> quotes() throws IOException {
        List<Path> files;
        try (Stream<Path> found = Files.list(TESTS)) {
            files = found.filter(file -> file.toString().endsWith(".java")).sorted().collect(Collectors.toList());
        }
        List<String> quotes = new ArrayList<>();
        for (Path file : files) {
            Matcher call = QUOTE.matcher(Files.readString(file));
            while (call.find()) {
                StringBuilder words = new StringBuilder();
                Matcher text = TEXT.matcher(call.group(1));
                while (text.find()) {
                    words.append(text.group(1));
                }
                quotes.add(words.toString());
            }
        }
        return quotes;
    }

    private static void mark(String document, String quote, boolean[] quoted) {
        for (int at = document.indexOf(quote); at >= 0; at = document.indexOf(quote, at + 1)) {
            Arrays.fill(quoted, at, at + quote.length(), true);
        }
    }

    private static void tellMisquoted(String document, List<String> quotes) {
        for (String quote : quotes) {
            if (!document.contains(quote)) {
                wrong++;
                System.out.println("the document does not say: " + quote);
            }
        }
    }

    private static void tellUnquoted(String document, boolean[] quoted) {
        StringBuilder piece = new StringBuilder();
        for (int at = 0; at <= document.length(); at++) {
            if (at < document.length() && !quoted[at]) {
                piece.append(document.charAt(at));
                continue;
            }
            String words = piece.toString().replaceAll("^[ .,;:]+", "").trim();
            piece.setLength(0);
            if (!words.replaceAll("[ .,;:]", "").isEmpty() && !LEADING.contains(words)) {
                wrong++;
                System.out.println("no test quotes: " + words);
            }
        }
    }
}
