import java.io.IOException;
import java.io.UncheckedIOException;
import java.nio.file.Files;
import java.nio.file.Path;
import java.util.regex.Matcher;
import java.util.regex.Pattern;

/** The words of ../shared/DOC.md, by promises, and which of them the tests have been about. */
final class Document {
    static final Path FILE = Path.of("../shared/DOC.md");
    static final int PROMISES = 53;
    private static final String[] texts = read();
    private static final boolean[][] told = new boolean[PROMISES + 1][];

    private Document() {
    }

    /** Place 0 has the Terms, the others a promise each, without its heading and the signature of its call. */
    private static String[] read() {
        String all;
        try {
            all = Files.readString(FILE);
        } catch (IOException e) {
            throw new UncheckedIOException(e);
        }
        String[] found = new String[PROMISES + 1];
        found[0] = between(all, "## Terms", "\nAhead of the calls").replaceAll("```(text)?|={8}", "");
        Matcher m = Pattern.compile("(?s)\n## Promise (\\d+): [^\n]*\n\n`[^`]*`:(.*?)(?=\n## )").matcher(all);
        while (m.find()) {
            found[Integer.parseInt(m.group(1))] = m.group(2);
        }
        for (int p = 0; p <= PROMISES; p++) {
            if (found[p] == null) {
                throw new IllegalStateException("the document has no promise " + p);
            }
            found[p] = found[p].replaceAll("\\s+", " ").trim();
        }
        return found;
    }

    private static String between(String all, String from, String to) {
        int start = all.indexOf(from) + from.length();
        return all.substring(start, all.indexOf(to, start));
    }

    /** Whether a promise has these words; marks them, there where they have not been told yet. */
    static boolean tells(int promise, String words) {
        String text = texts[promise];
        if (told[promise] == null) {
            told[promise] = new boolean[text.length()];
        }
        int at = text.indexOf(words);
        for (int next = at; next >= 0; next = text.indexOf(words, next + 1)) {
            if (!told[promise][next]) {
                at = next;
                break;
            }
        }
        for (int i = at; at >= 0 && i < at + words.length(); i++) {
            told[promise][i] = true;
        }
        return at >= 0;
    }

    /** The words of a promise that no test has been about; empty if there are none. */
    static String untold(int promise) {
        StringBuilder left = new StringBuilder();
        String text = texts[promise];
        for (int i = 0; i < text.length(); i++) {
            boolean is = told[promise] != null && told[promise][i];
            left.append(is ? '|' : text.charAt(i));
        }
        return left.toString().replaceAll("[|\\s]+", " ").trim();
    }
}
