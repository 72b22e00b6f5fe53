import java.io.IOException;
import java.nio.file.Files;
import java.nio.file.Path;
import java.util.regex.Matcher;
import java.util.regex.Pattern;

/** The sentences of the document, and which of them a test has named. */
final class Document {
    static final int TERMS = 0;
    private static final int PROMISES = 45;
    private static final Path FILE = Path.of("../shared/DOC.md");

    private final String[] told = new String[PROMISES + 1];
    private final boolean[][] named = new boolean[PROMISES + 1][];

    Document() {
        String all = read();
        String terms = between(all, "## Terms", "## Promise 1:").replaceAll("Ahead of the calls [^\n]*", "");
        keep(TERMS, terms.replaceAll("```text|```|========( \\d)?", " "));
        for (int number = 1; number <= PROMISES; number++) {
            String next = number < PROMISES ? "## Promise " + (number + 1) + ":" : "## Not promised";
            String body = between(all, "## Promise " + number + ":", next);
            Matcher signature = Pattern.compile("`[^`]*\\)`: ").matcher(body);
            keep(number, signature.find() ? body.substring(signature.end()) : "no signature: " + body);
        }
    }

    private static String read() {
        try {
            return Files.readString(FILE);
        } catch (IOException missing) {
            throw new IllegalStateException("can't read " + FILE, missing);
        }
    }

    private static String between(String all, String from, String to) {
        int begin = all.indexOf(from);
        int end = all.indexOf(to);
        return begin < 0 || end < begin ? "" : all.substring(begin + from.length(), end);
    }

    private void keep(int number, String words) {
        told[number] = words.replaceAll("\\s+", " ").trim();
        named[number] = new boolean[told[number].length()];
    }

    /** Whether these words stand there; then they are taken as named. */
    boolean name(int number, String words) {
        int at = told[number].indexOf(words);
        while (at >= 0 && named[number][at]) {
            at = told[number].indexOf(words, at + 1);
        }
        for (int i = 0; at >= 0 && i < words.length(); i++) {
            named[number][at + i] = true;
        }
        return at >= 0;
    }

    /** What of one part no test has named; empty, if that holds no letter and no figure. */
    String unnamed(int number) {
        StringBuilder rest = new StringBuilder();
        for (int i = 0; i < told[number].length(); i++) {
            rest.append(named[number][i] ? ' ' : told[number].charAt(i));
        }
        String left = rest.toString().replaceAll("\\s+", " ").trim();
        return left.matches(".*[A-Za-z0-9].*") ? left : "";
    }

    int parts() {
        return PROMISES + 1;
    }
}
