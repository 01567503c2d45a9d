import java.io.IOException;
import java.nio.file.Files;
import java.nio.file.Path;

/** Counts the answers of one test that are not as due, and tells each of them. */
final class Check {
    private static final Path DOCUMENT = Path.of("../shared/DOC.md");

    private static int wrong = 0;
    private static int asked = 0;
    private static int askedBefore = 0;
    private static String sentence = "";
    private static String document = null;

    private Check() {
    }

    /** The document's words that the answers from here on are held against. */
    static void sentence(String words) {
        endSentence();
        sentence = words;
        askedBefore = asked;
        // A quotation that has drifted from the document would hold the class to nobody's promise.
        if (!document().isEmpty() && !document().contains(words)) {
            wrong++;
            System.out.println("not in the document: " + words);
        }
    }

    private static void endSentence() {
        if (!sentence.isEmpty() && asked == askedBefore) {
            wrong++;
            System.out.println("nothing was asked of: " + sentence);
        }
        sentence = "";
    }

    private static String document() {
        if (document == null) {
            document = textOf(DOCUMENT).replaceAll("\\s+", " ");
        }
        return document;
    }

    /** The text of a file; empty where there is no such file. */
    static String textOf(Path path) {
        try {
            return Files.exists(path) ? Files.readString(path) : "";
        } catch (IOException unreadable) {
            return "";
        }
    }

    static void due(String call, long got, long want) {
        asked++;
        if (got != want) {
            wrong++;
            String told = sentence.isEmpty() ? "" : " (" + sentence + ")";
            System.out.println(call + " answered " + got + ", due is " + want + told);
        }
    }

    static void due(String call, boolean got, boolean want) {
        due(call, got ? 1L : 0L, want ? 1L : 0L);
    }

    static void due(String call, String got, String want) {
        asked++;
        if (!got.equals(want)) {
            wrong++;
            System.out.println(call + " answered\n  " + got + ", due is\n  " + want);
        }
    }

    static boolean allRight() {
        return wrong == 0;
    }

    /** Ends the test: exit code 1 if an answer was wrong. */
    static void finish() {
        endSentence();
        System.out.println(wrong == 0 ? asked + " answers are as due" : wrong + " answers are not as due");
        if (wrong != 0) {
            System.exit(1);
        }
    }
}
