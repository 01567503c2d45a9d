import java.io.IOException;
import java.nio.file.Files;
import java.nio.file.Path;
import java.util.ArrayList;
import java.util.List;
import java.util.regex.Matcher;
import java.util.regex.Pattern;
import java.util.stream.Collectors;
import java.util.stream.Stream;

/** That no word of the document's "Terms" and promises stands without a test that quotes it. */
public final class SentencesTest {
    private static final Path DOCUMENT = Path.of("../shared/DOC.md");
    private static final Path TESTS = Path.of("src/test/java");
    private static final Pattern QUOTING = Pattern.compile("Check\\.sentence\\(((?:\\s*\"[^\"]*\"\\s*\\+?)+)\\)");
    private static final Pattern LITERAL = Pattern.compile("\"([^\"]*)\"");
    /** Headings, signatures, fences and the numbers of parts promise nothing. */
    private static final String FRAME = "(?m)^#.*$|^`[^`]*`: |^```.*$|^==== \\d\\.|^The constants:";

    private SentencesTest() {
    }

    public static void main(String[] args) throws IOException {
        String left = promised(Check.textOf(DOCUMENT));
        for (String quotation : quotations()) {
            left = left.replace(quotation, "|");
        }
        String words = left.replaceAll("\\band\\b", "").replaceAll("[^A-Za-z0-9]+", " ").trim();
        Check.due("words that no test quotes", words, "");
        Check.finish();
    }

    private static String promised(String document) {
        int first = Math.max(0, document.indexOf("## Terms"));
        int last = document.indexOf("## Not promised");
        String part = document.substring(first, last < first ? document.length() : last);
        return part.replaceAll(FRAME, " ").replaceAll("\\s+", " ");
    }

    /** The longest first, since some lie within others. */
    private static List<String> quotations() throws IOException {
        List<String> all = new ArrayList<>();
        for (Path test : tests()) {
            Matcher quoting = QUOTING.matcher(Files.readString(test));
            while (quoting.find()) {
                all.add(LITERAL.matcher(quoting.group(1)).results().map(m -> m.group(1)).collect(Collectors.joining()));
            }
        }
        all.sort((one, other) -> other.length() - one.length());
        return all;
    }

    private static List<Path> tests() throws IOException {
        try (Stream<Path> files = Files.list(TESTS)) {
            return files.filter(file -> file.toString().endsWith("Test.java")).sorted().toList();
        }
    }
}
