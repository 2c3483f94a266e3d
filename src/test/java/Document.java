import java.io.IOException;
import java.nio.file.Files;
import java.nio.file.Path;

/** The words of ../shared/DOC.md, to see that tests quote them rightly and leave none out. */
final class Document {
    private static final Path PLACE = Path.of("../shared/DOC.md");
    static final int PROMISES = 22;

    private final String text;
    private final boolean[] isQuoted;

    private Document(String text) {
        this.text = text;
        isQuoted = new boolean[text.length()];
    }

    /** Null where the document is not at hand: then tests can still be run. */
    static Document read() {
        if (!Files.isReadable(PLACE)) {
            System.out.println(PLACE + " is not here: quotes are not looked up");
            return null;
        }
        try {
            String marked = Files.readString(PLACE);
            return new Document(onOneLine(marked.replaceAll("```(text)?|====", " ")));
        } catch (IOException e) {
            throw new IllegalStateException(e);
        }
    }

    private static String onOneLine(String words) {
        return words.replaceAll("\\s+", " ").trim();
    }

    /** Whether the words stand under the promise's heading or, for all promises, ahead of them. */
    boolean quote(int promise, String words) {
        String wanted = onOneLine(words);
        return markIn(startOf(promise), startOf(promise + 1), wanted)
                || markIn(0, startOf(1), wanted);
    }

    private boolean markIn(int from, int to, String wanted) {
        int at = text.indexOf(wanted, from);
        if (at < 0 || at + wanted.length() > to) {
            return false;
        }
        for (int i = at; i < at + wanted.length(); i++) {
            isQuoted[i] = true;
        }
        return true;
    }

    private int startOf(int promise) {
        String heading = promise > PROMISES ? "## Not promised" : "## Promise " + promise + ":";
        return text.indexOf(heading);
    }

    /** The words of the promise on a call. */
    String promiseOf(String call) {
        for (int promise = 1; promise <= PROMISES; promise++) {
            String words = text.substring(startOf(promise), startOf(promise + 1));
            if (words.contains(": " + call + " `")) {
                return words;
            }
        }
        return "";
    }

    /** What no test has quoted of a promise, behind its heading and its call. */
    String unquotedOf(int promise) {
        return unquoted(text.indexOf("`: ", startOf(promise)) + 3, startOf(promise + 1));
    }

    String unquotedTerms() {
        return unquoted(text.indexOf("Refusals are answers"), text.indexOf("Ahead of the calls"));
    }

    private String unquoted(int from, int to) {
        StringBuilder left = new StringBuilder();
        for (int i = from; i < to; i++) {
            left.append(isQuoted[i] ? ' ' : text.charAt(i));
        }
        // the numbers of the document's parts, and marks between quotes, say nothing
        return onOneLine(left.toString().replaceAll("[^A-Za-z ]", " "));
    }
}
