import java.io.IOException;
import java.nio.file.Files;
import java.nio.file.Path;
import java.util.ArrayList;
import java.util.List;

/** README.md, and its pieces of code by their language. */
final class Readme {
    static final String NAME = "README.md";

    /** A line of code, and which line of the page it is. */
    record Line(int number, String words) {
    }

    private final List<String> lines;

    Readme() {
        try {
            lines = Files.readAllLines(Path.of(NAME));
        } catch (IOException missing) {
            throw new IllegalStateException("can't read " + NAME, missing);
        }
    }

    String all() {
        return String.join("\n", lines);
    }

    /** The pieces of code in a language, in their order. */
    List<List<Line>> pieces(String language) {
        List<List<Line>> pieces = new ArrayList<>();
        List<Line> piece = null;
        for (int i = 0; i < lines.size(); i++) {
            String line = lines.get(i);
            if (line.equals("```")) {
                piece = null;
            } else if (line.equals("```" + language)) {
                piece = new ArrayList<>();
                pieces.add(piece);
            } else if (piece != null) {
                piece.add(new Line(i + 1, line));
            }
        }
        return pieces;
    }
}
