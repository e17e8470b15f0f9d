import java.io.IOException;
import java.nio.file.Files;
import java.nio.file.Path;

/** Counts answers that are not as due, and ends a test by them. */
final class Due {
    private static final Path DOCUMENT = Path.of("..", "shared", "DOC.md");

    private final String test;
    private String sentence = "";
    private int sentences = 0;
    private int askedOfSentence = 1;
    private int asked = 0;
    private int wrong = 0;

    Due(String test) {
        this.test = test;
    }

    /** What follows, up to the next sentence, is asked of these words of the document. */
    void says(String words) {
        closeSentence();
        sentence = words;
        sentences++;
        askedOfSentence = 0;
        // A document whose words were bettered is no fault of the program: so this is but a note.
        if (!document().contains(words)) {
            System.out.println(test + ": note: the document has no words '" + words + "'");
        }
    }

    private static String document() {
        try {
            return Files.readString(DOCUMENT).replaceAll("\\s+", " ");
        } catch (IOException none) {
            return "";
        }
    }

    private void closeSentence() {
        if (askedOfSentence == 0) {
            wrong++;
            System.out.println(test + ": nothing is asked of '" + sentence + "'");
        }
    }

    private void fail(String what) {
        wrong++;
        if (wrong <= 50) {
            System.out.println(test + ": " + (sentence.isEmpty() ? "" : "'" + sentence + "': ") + what);
        }
    }

    void is(String call, long got, long want) {
        asked++;
        askedOfSentence++;
        if (got != want) {
            fail(call + " answered " + got + ", due is " + want);
        }
    }

    void holds(String what, boolean so) {
        asked++;
        askedOfSentence++;
        if (!so) {
            fail(what + " does not hold");
        }
    }

    boolean anyWrong() {
        return wrong > 0;
    }

    void end() {
        closeSentence();
        String of = sentences > 0 ? " of " + sentences + " sentences" : "";
        System.out.println(test + ": " + asked + " asked" + of + ", " + wrong + " wrong");
        if (wrong > 0 || asked == 0) {
            System.exit(1);
        }
    }
}
