import java.io.IOException;
import java.nio.file.Files;
import java.nio.file.Path;
import java.util.ArrayList;
import java.util.List;
import java.util.regex.Matcher;
import java.util.regex.Pattern;

/** The document's words, and which of them a test has quoted: what is ahead of promise 1 is part 0. */
final class Doc {
    static final int PROMISES = 45;
    private static final Path FILE = Path.of("../shared/DOC.md");

    /** Words by which a sentence names a case at an edge. */
    private static final Pattern EDGE = Pattern.compile(
        "\\b(BAD|FULL|STATE|SPENT|FINDING|NONE|NOTHING|BEYOND|UNLIKE|NOUGHT|SIZE|DEEDS)\\b"
            + "|\\.\\. \\d|\\d to \\d|\\bat (most|first)\\b"
            + "|\\b(below|above|missing|before|anew|order|first|last|same|never|cut|more|less|least|fewest)\\b");

    private final String[] parts = new String[PROMISES + 1];
    private final boolean[][] quoted = new boolean[PROMISES + 1][];

    Doc() {
        String all = read();
        // What it is and the Terms; the face between them is RulesTest's.
        parts[0] = between(all, "An object is used", "## The public face")
            + between(all, "## Terms", "Ahead of the calls `row`");
        for (int p = 1; p <= PROMISES; p++) {
            String next = p == PROMISES ? "## Not promised" : "## Promise " + (p + 1) + ":";
            String part = between(all, "## Promise " + p + ":", next);
            // Behind the heading and the call's own line.
            parts[p] = part.substring(part.indexOf("`: ") + 3);
        }
        for (int p = 0; p <= PROMISES; p++) {
            quoted[p] = new boolean[parts[p].length()];
        }
    }

    private static String read() {
        try {
            return Files.readString(FILE).replaceAll("\\s+", " ");
        } catch (IOException e) {
            throw new IllegalStateException("the document is not at " + FILE, e);
        }
    }

    private static String between(String all, String from, String to) {
        int start = all.indexOf(from);
        int end = all.indexOf(to, start + 1);
        if (start < 0 || end < 0) {
            throw new IllegalStateException("the document has no " + from + " .. " + to);
        }
        return all.substring(start, end);
    }

    /** Whether these words stand in a part; they are held to be tested from here on. */
    boolean quote(int part, String words) {
        int at = parts[part].indexOf(words);
        if (at < 0) {
            return false;
        }
        for (int i = at; i < at + words.length(); i++) {
            quoted[part][i] = true;
        }
        return true;
    }

    /** Each place at which the document names an edge in words that no test has quoted. */
    List<String> notQuoted() {
        List<String> left = new ArrayList<>();
        for (int p = 0; p <= PROMISES; p++) {
            Matcher edge = EDGE.matcher(parts[p]);
            while (edge.find()) {
                if (!quoted[p][edge.start()] || !quoted[p][edge.end() - 1]) {
                    int from = Math.max(0, edge.start() - 30);
                    int to = Math.min(parts[p].length(), edge.end() + 30);
                    left.add(p + ": .." + parts[p].substring(from, to) + "..");
                }
            }
        }
        return left;
    }
}
