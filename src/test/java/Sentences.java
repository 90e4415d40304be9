import java.io.IOException;
import java.nio.charset.StandardCharsets;
import java.nio.file.Files;
import java.nio.file.Path;
import java.util.Set;
import java.util.TreeSet;

/**
 * Tests by the sentences of the document: each names a promise and quotes a sentence, which must stand in the text of
 * that promise or in the Terms. In the end all of both must have been quoted.
 */
final class Sentences {
    private static final Path DOC = Path.of("../shared/DOC.md");
    private static final int TERMS = 0, PROMISES = 33;

    private final Checks checks = new Checks();
    /** The Terms, and behind them each promise by its number. */
    private final String[] texts = new String[PROMISES + 1];
    private final boolean[][] quoted = new boolean[PROMISES + 1][];
    private final Set<String> names = new TreeSet<>();
    private String name = "";
    private int asked = 0;

    Sentences() throws IOException {
        String doc = Files.readString(DOC, StandardCharsets.UTF_8).replaceAll("```(text)?|==== \\d", " ").replaceAll("\\s+", " ");
        String use = between(doc, "An object is used", " ## The public face");
        texts[TERMS] = "An object is used" + use + " " + between(doc, "## Terms ", " Ahead of the calls");
        for (int promise = 1; promise <= PROMISES; promise++) {
            String head = "## Promise " + promise + ":";
            String next = promise < PROMISES ? " ## Promise " + (promise + 1) + ":" : " ## Not promised";
            texts[promise] = between(between(doc, head, next) + "|", "`: ", "|");
        }
        for (int k = 0; k <= PROMISES; k++) {
            quoted[k] = new boolean[texts[k].length()];
        }
    }

    private static String between(String text, String from, String to) {
        int start = text.indexOf(from);
        int end = start < 0 ? -1 : text.indexOf(to, start + from.length());
        if (end < 0) {
            throw new IllegalStateException("the document is without " + from + " .. " + to);
        }
        return text.substring(start + from.length(), end);
    }

    /** A test of its own for a sentence, as it bears on a promise. */
    void test(int promise, String sentence, Runnable body) {
        name = "promise " + promise + ", \"" + sentence + "\"";
        checks.holds(name + " is tested once", names.add(name));
        int where = texts[promise].contains(sentence) ? promise : TERMS;
        int at = texts[where].indexOf(sentence);
        checks.holds(name + " stands in the document", at >= 0);
        checks.holds(name + " stands there once", texts[where].indexOf(sentence, at + 1) < 0);
        for (int k = at; at >= 0 && k < at + sentence.length(); k++) {
            quoted[where][k] = true;
        }
        asked = 0;
        body.run();
        checks.holds(name + " is asked for", asked > 0);
    }

    void due(String what, long got, long want) {
        asked++;
        checks.due(name + ": " + what, got, want);
    }

    void end() {
        for (int k = 0; k <= PROMISES; k++) {
            StringBuilder rest = new StringBuilder();
            for (int i = 0; i < texts[k].length(); i++) {
                char sign = texts[k].charAt(i);
                rest.append(quoted[k][i] || !Character.isLetterOrDigit(sign) ? ' ' : sign);
            }
            String left = rest.toString().trim().replaceAll("\\s+", " ");
            checks.holds((k == TERMS ? "the Terms" : "promise " + k) + ", without a test: " + left, left.isEmpty());
        }
        System.out.println(names.size() + " sentences");
        checks.end();
    }
}
