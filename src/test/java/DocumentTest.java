import java.io.IOException;
import java.nio.file.Files;
import java.nio.file.Path;
import java.util.ArrayList;
import java.util.List;
import java.util.regex.Matcher;
import java.util.regex.Pattern;
import java.util.stream.Stream;

/** Of the document's terms and promises no word stands outside the sentences that the edge tests name as theirs. */
public final class DocumentTest {
    private static final Path TESTS = Path.of("src/test/java");
    private static final Pattern CALL = Pattern.compile("\\.sentence\\(((?:[\\s+]*\"(?:[^\"\\\\]|\\\\.)*\")+)\\)");
    private static final Pattern PIECE = Pattern.compile("\"((?:[^\"\\\\]|\\\\.)*)\"");

    private DocumentTest() {
    }

    public static void main(String[] args) throws IOException {
        Check check = new Check();
        check.in("../shared/DOC.md");
        String words = promisedWords();
        boolean[] isTested = new boolean[words.length()];
        List<String> quotes = quotes();
        check.due("the edge tests name sentences", quotes.size() > 100, true);
        for (String quote : quotes) {
            for (int at = words.indexOf(quote); at >= 0; at = words.indexOf(quote, at + 1)) {
                for (int i = at; i < at + quote.length(); i++) {
                    isTested[i] = true;
                }
            }
        }
        report(check, words, isTested);
        check.end();
    }

    /** Terms and promises without headings, fences, numbers of parts, and the calls that promises begin with. */
    private static String promisedWords() {
        String text = Document.raw();
        int from = text.indexOf("## Terms");
        int to = text.indexOf("## Not promised");
        String promised = from < 0 || to < from ? text : text.substring(from, to);
        return Document.withoutGaps(promised.replaceAll("(?m)^#.*$", "").replaceAll("(?m)^```.*$", "")
                .replaceAll("(?m)^`[^`]*`: ", "").replaceAll("==== \\d+\\.", ""));
    }

    private static List<String> quotes() throws IOException {
        List<String> found = new ArrayList<>();
        try (Stream<Path> files = Files.list(TESTS)) {
            for (Path file : files.filter(f -> f.toString().endsWith("EdgeTest.java")).sorted().toList()) {
                Matcher call = CALL.matcher(Files.readString(file));
                while (call.find()) {
                    found.add(joined(call.group(1)).replaceAll("^`[^`]*`: ", ""));
                }
            }
        }
        return found;
    }

    private static String joined(String literals) {
        StringBuilder text = new StringBuilder();
        Matcher piece = PIECE.matcher(literals);
        while (piece.find()) {
            text.append(piece.group(1));
        }
        return text.toString();
    }

    private static void report(Check check, String words, boolean[] isTested) {
        int start = 0;
        while (start < words.length()) {
            int end = start;
            while (end < words.length() && isTested[end] == isTested[start]) {
                end++;
            }
            String part = words.substring(start, end);
            if (!isTested[start] && part.chars().anyMatch(Character::isLetterOrDigit)) {
                check.fail("no edge test names '" + part.trim() + "'");
            }
            start = end;
        }
    }
}
