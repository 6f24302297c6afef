import java.io.IOException;
import java.io.UncheckedIOException;
import java.nio.file.Files;
import java.nio.file.Path;

/** Counts the answers of one test that are not as due, each under the words of the document that it stands for. */
final class Check {
    private static final Path DOCUMENT = Path.of("../shared/DOC.md");

    private final String test;
    private final String document;
    private String words = "";
    private int wrong;
    private int asked;

    Check(String test) {
        this.test = test;
        this.document = onOneLine(documentText());
    }

    /** What is checked from here on stands for these words, which must be the document's own. */
    void sentence(String quoted) {
        words = quoted;
        holds("the words stand in DOC.md", document.contains(onOneLine(quoted)));
    }

    void same(String call, long got, long due) {
        asked++;
        if (got != due) {
            tell(call, String.valueOf(got), String.valueOf(due));
        }
    }

    /** Compares bits, for a 0 that is answered has no sign; what is no number is never due. */
    void same(String call, double got, double due) {
        asked++;
        if (Double.isNaN(got) || Double.doubleToLongBits(got) != Double.doubleToLongBits(due)) {
            tell(call, String.valueOf(got), String.valueOf(due));
        }
    }

    void holds(String what, boolean held) {
        asked++;
        if (!held) {
            tell(what, "no", "yes");
        }
    }

    void end() {
        System.out.println(test + ": " + (asked - wrong) + " of " + asked + " as due");
        if (wrong != 0) {
            System.exit(1);
        }
    }

    private void tell(String call, String got, String due) {
        wrong++;
        if (wrong <= 20) {
            System.out.println(test + ", \"" + words + "\": " + call + " answered " + got + ", due is " + due);
        }
    }

    private static String documentText() {
        try {
            return Files.readString(DOCUMENT);
        } catch (IOException e) {
            throw new UncheckedIOException(e);
        }
    }

    private static String onOneLine(String text) {
        return text.replaceAll("\\s+", " ");
    }
}
