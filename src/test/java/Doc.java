import java.io.IOException;
import java.nio.file.Files;
import java.nio.file.Path;
import java.util.regex.Matcher;
import java.util.regex.Pattern;

/**
 * The document itself. A test of a bound says which sentence it holds the class to; in the end no words that name a
 * bound may be left that no test said.
 */
final class Doc {
    /** The Terms are section 0, and Promise 1 to 33 the sections 1 to 33. */
    static final int TERMS = 0;
    private static final int PROMISES = 33;
    private static final String[] SECTIONS = sections();
    private static final boolean[][] SAID = said();
    private static final Pattern BOUND = Pattern.compile("\\bNONE\\b|\\bUNKNOWN\\b|-\\d|\\d+ to \\d+|\\bat most\\b"
        + "|\\bat least\\b|\\bless\\b|\\bmore\\b|\\bbelow\\b|\\bdownwards\\b|\\btowards\\b|\\bround\\b|\\bleast\\b|\\blast\\b"
        + "|\\bno\\b|\\bnot\\b|\\bnone\\b|\\bnobody\\b|\\bempty\\b|\\bonce\\b|\\bfirst\\b|\\bnothing\\b|\\bwithout\\b"
        + "|\\balone\\b|\\bfewest\\b|\\bif\\b|\\d");

    private Doc() {
    }

    private static String[] sections() {
        String[] sections = new String[PROMISES + 1];
        String text = read();
        int from = text.indexOf("## Terms");
        for (int i = 0; i <= PROMISES; i++) {
            String next = i < PROMISES ? "## Promise " + (i + 1) + ": " : "## Not promised";
            int to = text.indexOf(next);
            // A promise's own words stand behind its face: `int end(int n)`: ..
            int body = i == TERMS ? from + "## Terms".length() : text.indexOf("`: ", from) + 3;
            sections[i] = text.substring(body, to).trim();
            from = to;
        }
        return sections;
    }

    private static String read() {
        try {
            String text = Files.readString(Path.of("../shared/DOC.md"));
            return text.replaceAll("```(text)?|`NONE = -1`: None\\.", " ").replaceAll("\\s+", " ");
        } catch (IOException e) {
            throw new IllegalStateException("the document is not where it should be", e);
        }
    }

    private static boolean[][] said() {
        boolean[][] said = new boolean[SECTIONS.length][];
        for (int i = 0; i < said.length; i++) {
            said[i] = new boolean[SECTIONS[i].length()];
        }
        return said;
    }

    static void says(int section, String sentence) {
        int at = SECTIONS[section].indexOf(sentence);
        Due.due("section " + section + " of the document says: " + sentence, at >= 0, true);
        for (; at >= 0; at = SECTIONS[section].indexOf(sentence, at + 1)) {
            for (int i = 0; i < sentence.length(); i++) {
                SAID[section][at + i] = true;
            }
        }
    }

    /** Each word that names a bound has been said by a test. */
    static void allSaid() {
        for (int section = 0; section < SECTIONS.length; section++) {
            String text = SECTIONS[section];
            Matcher bound = BOUND.matcher(text);
            while (bound.find()) {
                int from = Math.max(0, bound.start() - 40);
                int to = Math.min(text.length(), bound.end() + 40);
                Due.due("a test of section " + section + ": .. " + text.substring(from, bound.start()) + ">"
                    + bound.group() + "<" + text.substring(bound.end(), to), isSaid(section, bound.start(), bound.end()), true);
            }
        }
    }

    private static boolean isSaid(int section, int from, int to) {
        for (int i = from; i < to; i++) {
            if (!SAID[section][i]) {
                return false;
            }
        }
        return true;
    }
}
