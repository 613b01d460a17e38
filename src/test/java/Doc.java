import java.io.IOException;
import java.nio.file.Files;
import java.nio.file.Path;
import java.util.ArrayList;
import java.util.BitSet;
import java.util.List;
import java.util.regex.Matcher;
import java.util.regex.Pattern;

/** The document's sentences, and which of them were quoted by a test. */
final class Doc {
    static final int PROMISES = 40;

    private final List<StringBuilder> parts = new ArrayList<>();
    private final List<BitSet> quoted = new ArrayList<>();

    /** Part 0 is all that holds for every promise; part n is promise n. */
    Doc(Path file) throws IOException {
        for (int i = 0; i <= PROMISES; i++) {
            parts.add(new StringBuilder());
            quoted.add(new BitSet());
        }
        int part = -1;
        for (String line : Files.readAllLines(file)) {
            if (line.startsWith("## ")) {
                part = partOf(line);
            } else if (part >= 0 && !namesCallsAlone(line)) {
                // The call itself, ahead of a promise's sentences, and the rulers of the terms are left out.
                String said = line.replaceFirst(part > 0 ? "^`[^`]*`: " : "^=+ \\d ", "");
                parts.get(part).append(said.trim().replaceAll("\\s+", " ")).append(' ');
            }
        }
    }

    private static int partOf(String heading) {
        Matcher promise = Pattern.compile("## Promise (\\d+):.*").matcher(heading);
        if (promise.matches()) {
            return Integer.parseInt(promise.group(1));
        }
        return heading.equals("## Terms") || heading.equals("## What it is") ? 0 : -1;
    }

    private static boolean namesCallsAlone(String line) {
        return line.startsWith("```") || line.startsWith("Ahead of the calls") || line.startsWith("Hollow steps:");
    }

    /** Whether the sentence stands in the promise or in the terms; what stands there is quoted then. */
    boolean says(int promise, String sentence) {
        boolean own = quote(promise, sentence);
        return quote(0, sentence) || own;
    }

    private boolean quote(int part, String sentence) {
        String text = parts.get(part).toString();
        boolean found = false;
        for (int at = text.indexOf(sentence); at >= 0; at = text.indexOf(sentence, at + 1)) {
            quoted.get(part).set(at, at + sentence.length());
            found = true;
        }
        return found;
    }

    /** The words that no test has quoted, each run of them with its part. */
    List<String> unquoted() {
        List<String> left = new ArrayList<>();
        for (int part = 0; part < parts.size(); part++) {
            String text = parts.get(part).toString();
            BitSet seen = quoted.get(part);
            for (int from = seen.nextClearBit(0); from < text.length(); ) {
                int next = seen.nextSetBit(from);
                int to = next < 0 ? text.length() : next;
                String rest = text.substring(from, to).trim();
                if (rest.matches(".*[A-Za-z0-9].*")) {
                    left.add((part == 0 ? "Terms: " : "Promise " + part + ": ") + rest);
                }
                from = seen.nextClearBit(to);
            }
        }
        return left;
    }
}
