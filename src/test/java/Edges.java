import java.io.IOException;
import java.nio.file.Files;
import java.nio.file.Path;
import java.util.BitSet;
import java.util.function.Consumer;
import java.util.regex.Matcher;
import java.util.regex.Pattern;

/**
 * Tests of edges, each under the words of the document that name it. The words are looked up in the
 * document, and what no test stands under is told: so no edge is forgotten, also when the document changes.
 */
final class Edges {
    static final int TERMS = 0;
    private static final int PROMISES = 30;
    private static final Pattern NAMES_AN_EDGE = Pattern.compile("\\b(?:BAD|NULL|PLACE|KIND(?=:)|SIZE|STORE|STATE|FULL|NONE|FAULT)\\b"
        + "|\\d+ to \\d+|\\d+ \\.\\. \\d+|\\b(?:above|below|beyond|at most|at first|none|nowhere|nothing|empty|missing)\\b"
        + "|\\b(?:cut|modulo|lowest|not among|of several|the first|0 before one|without)\\b");

    private final Checks checks;
    private final String[] parts = new String[PROMISES + 1];
    private final BitSet[] tested = new BitSet[PROMISES + 1];

    Edges(Checks checks, Path document) throws IOException {
        this.checks = checks;
        String text = Files.readString(document).replaceAll("\\s+", " ");
        for (int part = 0; part <= PROMISES; part++) {
            parts[part] = between(text, headOf(part), headOf(part + 1));
            tested[part] = new BitSet();
        }
    }

    private static String headOf(int part) {
        if (part == TERMS) {
            return "## Terms";
        }
        return part > PROMISES ? "## Not promised" : "## Promise " + part + ":";
    }

    private static String between(String text, String head, String next) {
        int from = text.indexOf(head);
        int to = text.indexOf(next);
        if (from < 0 || to < from) {
            throw new IllegalStateException("the document has no part from '" + head + "' to '" + next + "'");
        }
        return text.substring(from + head.length(), to);
    }

    /** The test of what these words of a promise (or of the terms) name. */
    void of(int part, String words, Consumer<Checks> test) {
        String place = part == TERMS ? "terms" : "promise " + part;
        checks.under(place + ", '" + words + "': ");
        int from = parts[part].indexOf(words);
        checks.holds("stands in the document", from >= 0);
        if (from >= 0) {
            tested[part].set(from, from + words.length());
        }
        test.accept(checks);
        checks.under("");
    }

    void nothingIsLeftOut() {
        for (int part = 0; part <= PROMISES; part++) {
            Matcher matcher = NAMES_AN_EDGE.matcher(parts[part]);
            while (matcher.find()) {
                boolean isTested = tested[part].get(matcher.start());
                String around = parts[part].substring(Math.max(0, matcher.start() - 30), Math.min(parts[part].length(), matcher.end() + 30));
                checks.holds("an edge of part " + part + " has a test: .." + around + "..", isTested);
            }
        }
    }
}
