import java.io.IOException;
import java.nio.file.Files;
import java.nio.file.Path;
import java.util.ArrayList;
import java.util.List;

/** The document's sentences, and which of them are named by a test. Section 0 is what stands ahead of promise 1. */
final class Document {
    private static final int PROMISES = 33;

    private final String[] sections = new String[PROMISES + 1];
    private final boolean[][] named = new boolean[PROMISES + 1][];

    Document(Path file) throws IOException {
        String all = Files.readString(file);
        String ahead = between(all, "==== 1 HOUR (0 ..", "\n## The public face");
        String terms = between(all, "\n## Terms\n", "\n## Promise 1:");
        // The document's own headings stand in the midst of its first sentence.
        sections[0] = plain("HOUR (0 .. " + terms.replaceAll("Ahead of the calls [^\n]*", "") + " " + ahead);
        for (int p = 1; p <= PROMISES; p++) {
            String section = between(all, "\n## Promise " + p + ":", "\n## ");
            sections[p] = plain(section.replaceAll("(?s)^.*?`: ", ""));
        }
        for (int p = 0; p <= PROMISES; p++) {
            named[p] = new boolean[sections[p].length()];
        }
    }

    private static String between(String all, String start, String end) {
        int from = all.indexOf(start);
        int to = from < 0 ? -1 : all.indexOf(end, from + start.length());
        if (to < 0) {
            throw new IllegalStateException("the document has no '" + start + "'");
        }
        return all.substring(from + start.length(), to);
    }

    private static String plain(String text) {
        return text.replaceAll("```(text)?", " ").replaceAll("==== \\d", " ").replaceAll("\\s+", " ").trim();
    }

    /** The words stand once in the promise's own section, or else ahead of all promises. */
    boolean names(int promise, String words) {
        int section = sections[promise].contains(words) ? promise : 0;
        int at = sections[section].indexOf(words);
        if (at < 0 || sections[section].indexOf(words, at + 1) >= 0) {
            return false;
        }
        for (int i = at; i < at + words.length(); i++) {
            named[section][i] = true;
        }
        return true;
    }

    /** What no test has named, but for what stands between sentences. */
    List<String> unnamed() {
        List<String> rest = new ArrayList<>();
        for (int p = 0; p <= PROMISES; p++) {
            StringBuilder b = new StringBuilder();
            for (int i = 0; i < named[p].length; i++) {
                b.append(named[p][i] ? '\n' : sections[p].charAt(i));
            }
            for (String piece : b.toString().split("\n+")) {
                if (piece.matches(".*[A-Za-z0-9].*")) {
                    rest.add("promise " + p + ": " + piece.trim());
                }
            }
        }
        return rest;
    }
}
