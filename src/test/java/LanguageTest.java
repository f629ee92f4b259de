import java.io.IOException;
import java.nio.file.Files;
import java.nio.file.Path;
import java.util.List;
import java.util.regex.Matcher;
import java.util.regex.Pattern;

/** What of LANGUAGE.md can be seen in the text of the class: words that it rules out, long methods, wide lines. */
public final class LanguageTest {
    private static final String[] OUTSIDE = {
        "\\bimport\\b", "\\bpackage\\b", "\\bthrow\\b", "\\bthrows\\b", "\\btry\\b", "\\bcatch\\b",
        "\\bfinally\\b", "\\bsynchronized\\b", "\\bassert\\b", "->", "::", "\\bprotected\\b", "\\bvolatile\\b",
        "\\bnative\\b", "\\btransient\\b", "\\bSystem\\b", "\\bThread\\b", "\\bRandom\\b", "\\bhashCode\\b",
        "\\btoString\\b", "\\bdouble\\b", "\\bfloat\\b", "Exact\\(", "\\bwhile *\\(true\\)", "\\bfor *\\( *;"
    };

    private LanguageTest() {
    }

    public static void main(String[] args) throws IOException {
        Check check = new Check();
        Path file = Path.of("src/main/java/PrizeDesk.java");
        check.in(file.toString());
        List<String> lines = Files.readAllLines(file);
        String code = withoutComments(String.join("\n", lines));
        for (String word : OUTSIDE) {
            Matcher found = Pattern.compile(word).matcher(code);
            if (found.find()) {
                check.fail("has " + found.group());
            }
        }
        staticFields(check, code);
        methodLengths(check, lines);
        for (int i = 0; i < lines.size(); i++) {
            check.due("width of line " + (i + 1), lines.get(i).length() > 120, false);
            check.due("signs of line " + (i + 1), lines.get(i).chars().allMatch(c -> c >= 32 && c < 127), true);
        }
        check.end();
    }

    private static String withoutComments(String code) {
        return code.replaceAll("(?s)/\\*.*?\\*/", "").replaceAll("//[^\n]*", "");
    }

    private static void staticFields(Check check, String code) {
        Matcher field = Pattern.compile("\\bstatic (?!final )[^({]*[;=]").matcher(code);
        if (field.find()) {
            check.fail("has a static field that is not final: " + field.group());
        }
    }

    private static void methodLengths(Check check, List<String> lines) {
        int start = -1;
        String indent = "";
        for (int i = 0; i < lines.size(); i++) {
            String line = lines.get(i);
            Matcher head = Pattern.compile("( {4}| {8})\\S.*\\) \\{").matcher(line);
            if (start < 0 && head.matches() && !line.contains("class ")) {
                start = i;
                indent = head.group(1);
            } else if (start >= 0 && line.equals(indent + "}")) {
                check.due("lines of the method at " + (start + 1), i - start + 1 > 60, false);
                start = -1;
            }
        }
    }
}
