import java.io.IOException;
import java.nio.file.Files;
import java.nio.file.Path;
import java.util.regex.Matcher;
import java.util.regex.Pattern;

/**
 * The document's sentences, quoted, each with a test of its own. At the end it is looked whether every word
 * and number of the document that names an edge stands in a quote: so that no sentence is left without a test.
 */
final class Sentences {
    private static final int TERMS = 0;
    private static final int PROMISES = 27;
    private static final Pattern EDGE = Pattern.compile("-?\\b\\d+\\b"
        + "|\\b(BAD|NOT|FULL|NONE|WIDE|ROOT|NULL|CAST|INDEX|SIZE|FAULT|BREAKS|UNDONE|WHY|IMAGE)\\b"
        + "|\\b(missing|empty|nothing|none|least|most|lost|lowest|shorter|same|either|below|above|cut)\\b");

    private final Check check = new Check("SentenceTest");
    private final String[] sections = new String[PROMISES + 1];
    private final boolean[][] quoted = new boolean[PROMISES + 1][];
    private String now = "";
    private int tests = 0;

    Sentences(Path document) throws IOException {
        String text = Files.readString(document).replaceAll("\\s+", " ");
        sections[TERMS] = between(text, "## Terms ", "## Promise 1: ").replaceAll("(====|----) \\d ", "");
        for (int k = 1; k <= PROMISES; k++) {
            String end = k < PROMISES ? "## Promise " + (k + 1) + ": " : "## Not promised";
            sections[k] = between(text, "## Promise " + k + ": ", end);
        }
        for (int k = 0; k <= PROMISES; k++) {
            quoted[k] = new boolean[sections[k].length()];
        }
    }

    private static String between(String text, String from, String to) {
        int start = text.indexOf(from) + from.length();
        int end = text.indexOf(to);
        if (start < from.length() || end < start) {
            throw new IllegalStateException("the document has no '" + from + "' ahead of '" + to + "'");
        }
        return text.substring(start, end);
    }

    /** A sentence of Terms, as it belongs to a promise (0: to none alone). */
    void terms(int promise, String quote, Runnable test) {
        quote(TERMS, quote);
        run("Terms" + (promise == 0 ? "" : " in promise " + promise) + ", '" + quote + "'", test);
    }

    void promise(int number, String quote, Runnable test) {
        quote(number, quote);
        run("Promise " + number + ", '" + quote + "'", test);
    }

    private void quote(int section, String quote) {
        int at = sections[section].indexOf(quote);
        check.due("'" + quote + "' stands once in the document", at >= 0 && sections[section].lastIndexOf(quote) == at
            ? 1 : 0, 1);
        for (int k = 0; at >= 0 && k < quote.length(); k++) {
            quoted[section][at + k] = true;
        }
    }

    private void run(String name, Runnable test) {
        now = name;
        tests++;
        int before = check.seen();
        test.run();
        check.holds(name + " looks at an answer", check.seen() > before);
    }

    void due(String what, long got, long want) {
        check.due(now + ": " + what, got, want);
    }

    /** Ends the test; an edge without a quote is wrong, too. */
    void end() {
        for (int k = 0; k <= PROMISES; k++) {
            Matcher edge = EDGE.matcher(sections[k]);
            // The name of a promise and the line of its call tell no edge.
            int from = k == TERMS ? 0 : sections[k].indexOf("`:");
            while (edge.find()) {
                int near = Math.max(0, edge.start() - 30);
                check.holds((k == TERMS ? "Terms" : "Promise " + k) + ": '"
                    + sections[k].substring(near, Math.min(sections[k].length(), edge.end() + 20)) + "' has a test",
                    edge.start() < from || quoted[k][edge.start()]);
            }
        }
        System.out.println("SentenceTest: " + tests + " tests of sentences");
        check.end();
    }
}
