import java.io.IOException;
import java.nio.file.Files;
import java.nio.file.Path;
import java.util.regex.Matcher;
import java.util.regex.Pattern;

/** The sentences of the document, from its first part to its last, and which of them a test has named. */
final class Document {
    static final int PROMISES = 45;
    static final int TERMS = 0;
    static final int WHAT_IT_IS = PROMISES + 1;
    static final int FACE = PROMISES + 2;
    static final int NOT_PROMISED = PROMISES + 3;
    private static final int PARTS = PROMISES + 4;
    private static final Path FILE = Path.of("../shared/DOC.md");

    private final String[] told = new String[PARTS];
    private final boolean[][] named = new boolean[PARTS][];

    Document() {
        String all = read();
        keep(WHAT_IT_IS, between(all, "## What it is", "## The public face"));
        keep(FACE, between(all, "## The public face", "## Terms").replaceAll("```java|```", " "));
        keep(TERMS, between(all, "## Terms", "## Promise 1:").replaceAll("```text|```|========( \\d)?", " "));
        for (int number = 1; number <= PROMISES; number++) {
            String next = number < PROMISES ? "## Promise " + (number + 1) + ":" : "## Not promised";
            String body = between(all, "## Promise " + number + ":", next);
            Matcher signature = Pattern.compile("`[^`]*\\)`: ").matcher(body);
            keep(number, signature.find() ? body.substring(signature.end()) : "no signature: " + body);
        }
        keep(NOT_PROMISED, all.substring(Math.max(0, all.indexOf("## Not promised"))).replace("## Not promised", ""));
    }

    private static String read() {
        try {
            return Files.readString(FILE);
        } catch (IOException missing) {
            throw new IllegalStateException("can't read " + FILE, missing);
        }
    }

    private static String between(String all, String from, String to) {
        int begin = all.indexOf(from);
        int end = all.indexOf(to);
        return begin < 0 || end < begin ? "" : all.substring(begin + from.length(), end);
    }

    private void keep(int part, String words) {
        told[part] = words.replaceAll("\\s+", " ").trim();
        named[part] = new boolean[told[part].length()];
    }

    /** What a part of the document is called. */
    static String nameOf(int part) {
        switch (part) {
            case TERMS: return "Terms";
            case WHAT_IT_IS: return "What it is";
            case FACE: return "The public face";
            case NOT_PROMISED: return "Not promised";
            default: return "promise " + part;
        }
    }

    /** Whether these words stand there; then they are taken as named. */
    boolean name(int part, String words) {
        int at = told[part].indexOf(words);
        while (at >= 0 && named[part][at]) {
            at = told[part].indexOf(words, at + 1);
        }
        for (int i = 0; at >= 0 && i < words.length(); i++) {
            named[part][at + i] = true;
        }
        return at >= 0;
    }

    /** What of one part no test has named; empty, if that holds no letter and no figure. */
    String unnamed(int part) {
        StringBuilder rest = new StringBuilder();
        for (int i = 0; i < told[part].length(); i++) {
            rest.append(named[part][i] ? ' ' : told[part].charAt(i));
        }
        String left = rest.toString().replaceAll("\\s+", " ").trim();
        return left.matches(".*[A-Za-z0-9].*") ? left : "";
    }

    int parts() {
        return PARTS;
    }
}
