import java.io.IOException;
import java.nio.file.Files;
import java.nio.file.Path;
import java.util.ArrayList;
import java.util.List;
import java.util.regex.Pattern;

/**
 * Tests that bear a sentence of the document as their name. A sentence that doesn't stand there is a fault of the test,
 * and so is a sentence there that names a boundary and that no test bears.
 */
class Edges extends Rows {
    private static final Path DOCUMENT = Path.of("../shared/DOC.md");
    // What a sentence that names a boundary has in it.
    private static final Pattern BOUNDARY = Pattern.compile("NONE|False|others|\\.\\. |-\\d|\\bnone\\b|None|at most|at least|at first"
        + "|latest|held|beyond|\\bcut|of like ones|[Ww]ithout|can't|once|empty|alone|stays|too\\b|in lowest terms|above");

    private record Quote(int promise, String words) { }

    private static final List<Quote> QUOTES = new ArrayList<>();

    // Promise 0: the terms and the parts I to V, ahead of the promises.
    static MagpieAccounts edge(int promise, String words) {
        QUOTES.add(new Quote(promise, words));
        return begin((promise == 0 ? "terms" : "promise " + promise) + ", \"" + words + "\"");
    }

    static void checkQuotes(int first, int last) throws IOException {
        String document = Files.readString(DOCUMENT);
        for (int promise = first; promise <= last; promise++) {
            String section = section(document, promise);
            if (section.isEmpty()) wrong("the document has no promise " + promise);
            for (String sentence : section.split("(?<=[^. ]\\.) ")) checkSentence(promise, sentence);
            for (Quote quote : QUOTES) {
                if (quote.promise == promise && !section.contains(quote.words)) {
                    wrong("promise " + promise + " does not say \"" + quote.words + "\"");
                }
            }
        }
    }

    private static void checkSentence(int promise, String sentence) {
        boolean borne = false;
        for (Quote quote : QUOTES) borne |= quote.promise == promise && sentence.contains(quote.words);
        if (!borne && BOUNDARY.matcher(sentence).find()) {
            wrong("promise " + promise + ": no test bears \"" + sentence + "\"");
        }
    }

    private static String section(String document, int promise) {
        int from = document.indexOf(promise == 0 ? "## Terms" : "## Promise " + promise + ":");
        if (from < 0) return "";
        int to = document.indexOf("\n## ", from);
        return document.substring(from, to < 0 ? document.length() : to).replaceAll("```(text)?", " ").replaceAll("\\s+", " ");
    }
}
