/**
 * Each sentence of the document that names a boundary case, quoted, with runs that fail if it is
 * broken. A method's name begins with its promise; says() tells the sentence, and finds it in the
 * document. Words of the terms stand with the promise on which they are seen first.
 */
public final class BoundaryTest {
    private static final Document DOCUMENT = Document.read();
    private static String title = "";

    public static void main(String[] args) {
        ShedBoundaries.all();
        FittingBoundaries.all();
        LeastBoundaries.all();
        RefusalBoundaries.all();
        nothingIsLeftOut();
        Check.finish();
    }

    /** Names the sentence to which the runs behind it are due. */
    static void says(int promise, String words) {
        title = "promise " + promise + ", \"" + words + "\"";
        if (DOCUMENT != null) {
            Check.holds(title + " stands in the document", DOCUMENT.quote(promise, words));
        }
    }

    static void run(String... rows) {
        Run.run(title, String.join("; ", rows));
    }

    static void holds(String what, boolean isSo) {
        Check.holds(title + ": " + what, isSo);
    }

    private static void nothingIsLeftOut() {
        if (DOCUMENT == null) {
            return;
        }
        for (int promise = 1; promise <= Document.PROMISES; promise++) {
            String left = DOCUMENT.unquotedOf(promise);
            Check.holds("promise " + promise + " is quoted whole, but for: " + left, left.isEmpty());
        }
        String left = DOCUMENT.unquotedTerms();
        Check.holds("the terms are quoted whole, but for: " + left, left.isEmpty());
    }
}
