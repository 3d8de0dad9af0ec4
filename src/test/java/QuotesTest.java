import java.io.IOException;
import java.nio.file.Files;
import java.nio.file.Path;
import java.util.List;
import java.util.regex.Matcher;
import java.util.regex.Pattern;
import java.util.stream.Stream;

/** Each part of the document that names an edge is quoted by a test: what no test quotes must name none. */
public final class QuotesTest {
    private static final Check check = new Check();
    private static final Pattern QUOTE = Pattern.compile("check\\.says\\(\"([^\"]*)\"\\)");
    private static final Pattern EDGE = Pattern.compile(
            "\\bBAD\\b|\\bNOT\\b|\\bFULL\\b|\\bSTATE\\b|\\bVOID\\b|-1[1-4]|\\.\\.|\\bat most\\b|\\bat first\\b|\\bleast\\b"
            + "|\\bnone\\b|\\bends\\b|\\bwithin\\b|\\bor more\\b|\\bbelow\\b|\\bwraps?\\b|\\bempty\\b|\\bcount\\b");

    public static void main(String[] args) throws IOException {
        String document = promised();
        boolean[] quoted = new boolean[document.length()];
        int quotes = 0;
        try (Stream<Path> files = Files.list(Path.of("src/test/java"))) {
            List<Path> sorted = files.filter(file -> file.toString().endsWith(".java")).sorted().toList();
            for (Path file : sorted) {
                Matcher matcher = QUOTE.matcher(Files.readString(file));
                while (matcher.find()) {
                    mark(document, matcher.group(1), quoted);
                    quotes++;
                }
            }
        }
        check.due("there are quotes", quotes > 200 ? 1 : 0, 1);
        rest(document, quoted);
        check.finish();
    }

    /** Terms and promises, without headings, code marks, signatures and what the interface says. */
    private static String promised() throws IOException {
        String all = Files.readString(Path.of("../shared/DOC.md"));
        String body = all.substring(all.indexOf("## Terms"), all.indexOf("## Not promised"));
        return body.replaceAll("(?m)^## .*$", "").replaceAll("(?m)^Ahead of the calls.*$", "")
                .replaceAll("(?m)^`[^`]*`: ", "").replaceAll("```(text)?", "").replaceAll("\\s+", " ");
    }

    private static void mark(String document, String words, boolean[] quoted) {
        for (int at = document.indexOf(words); at >= 0; at = document.indexOf(words, at + 1)) {
            for (int i = at; i < at + words.length(); i++) {
                quoted[i] = true;
            }
        }
    }

    private static void rest(String document, boolean[] quoted) {
        StringBuilder part = new StringBuilder();
        for (int i = 0; i <= document.length(); i++) {
            if (i < document.length() && !quoted[i]) {
                part.append(document.charAt(i));
            } else if (part.length() > 0) {
                // Names of acts as flows(..) are no ranges.
                String text = part.toString().replace("(..)", "");
                check.due("an edge that no test quotes: " + text, EDGE.matcher(text).find() ? 1 : 0, 0);
                part.setLength(0);
            }
        }
    }
}
