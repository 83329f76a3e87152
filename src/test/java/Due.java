import java.io.IOException;
import java.nio.file.Files;
import java.nio.file.Path;

/** Tallies answers that are not the ones due, and makes what tests need again and again. */
final class Due {
    private static final Path DOCUMENT = Path.of("..", "shared", "DOC.md");

    private final String name;
    private String words = "";
    private int asked;
    private int wrong;

    Due(String name) {
        this.name = name;
    }

    /** What comes next is asked by these words of the document; they must stand in it. */
    void on(String ofDocument) {
        words = "";
        is("these words stand in the document: " + ofDocument, Document.TEXT.contains(ofDocument) ? 1 : 0, 1);
        words = " [" + ofDocument + "]";
    }

    void is(String call, long got, long want) {
        asked++;
        if (got != want) {
            wrong++;
            if (wrong <= 40) {
                System.out.println(name + ": " + call + " answered " + got + ", due is " + want + words);
            }
        }
    }

    /** The document with one blank for all that parts two words; read only by tests that quote it. */
    private static final class Document {
        static final String TEXT = read();

        private static String read() {
            try {
                return Files.readString(DOCUMENT).replaceAll("\\s+", " ");
            } catch (IOException unread) {
                System.out.println("the document is not at " + DOCUMENT.toAbsolutePath() + ": " + unread);
                return "";
            }
        }
    }

    int wrong() {
        return wrong;
    }

    void end() {
        System.out.println(name + ": " + asked + " answers, " + wrong + " not as due");
        if (wrong != 0) {
            System.exit(1);
        }
    }

    /** A ROW of a sort with these elements on a SHELF. */
    static void row(FootstepsAhead x, int shelf, int sort, int... elements) {
        x.row(shelf, sort, elements.length);
        for (int i = 0; i < elements.length; i++) {
            x.put(shelf, i, elements[i]);
        }
    }

    /** A WALKER with these PLACES, by way of SHELF 5. */
    static int walker(FootstepsAhead x, int... places) {
        row(x, 5, 0, places);
        return x.walker(5, places.length);
    }

    /** A further WAY with these PLACES, by way of SHELF 5. */
    static int way(FootstepsAhead x, int walker, int... places) {
        row(x, 5, 0, places);
        return x.way(walker, 5, places.length);
    }

    static int law(FootstepsAhead x, String text) {
        for (int i = 0; i < text.length(); i++) {
            x.feed(text.charAt(i));
        }
        return x.law();
    }
}
