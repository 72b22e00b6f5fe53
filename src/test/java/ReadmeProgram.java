import java.io.IOException;
import java.nio.file.Files;
import java.nio.file.Path;
import java.util.ArrayList;
import java.util.List;
import java.util.regex.Matcher;
import java.util.regex.Pattern;

/**
 * Makes a program of README.md's Java, as it stands there, and a script of the commands that
 * README.md tells for it. The program fails if a call answers other than README.md shows.
 */
final class ReadmeProgram {
    private static final Pattern CALL = Pattern.compile("(\\s*)(\\w+\\.\\w+\\(.*\\));(.*)");
    private static final Pattern ANSWER = Pattern.compile("\\s*// (-?\\d+|[A-Z]+)(\\W.*)?");

    private ReadmeProgram() {
    }

    /** The argument is the folder in which README.md's commands are to find the program. */
    public static void main(String[] arguments) throws IOException {
        Readme readme = new Readme();
        List<String> wrong = new ArrayList<>();
        Path folder = Path.of(arguments[0]);
        Files.writeString(folder.resolve("MarketDay.java"), program(readme, wrong));
        Files.writeString(folder.resolve("commands"), commands(readme));
        for (String each : wrong) {
            System.out.println(each);
        }
        if (!wrong.isEmpty()) {
            System.exit(1);
        }
    }

    private static String commands(Readme readme) {
        StringBuilder all = new StringBuilder();
        for (Readme.Line line : readme.pieces("sh").get(0)) {
            all.append(line.words()).append('\n');
        }
        return all.toString();
    }

    private static String program(Readme readme, List<String> wrong) {
        StringBuilder all = new StringBuilder();
        all.append("public final class MarketDay {\n")
            .append("    private static int calls = 0, wrong = 0;\n\n")
            .append("    private static void shown(int line, String call, long due, long got) {\n")
            .append("        calls++;\n")
            .append("        if (got != due) {\n")
            .append("            wrong++;\n")
            .append("            System.out.println(\"" + Readme.NAME + ":\" + line + \": \" + call"
                + " + \" answers \" + got + \", shown is \" + due);\n")
            .append("        }\n")
            .append("    }\n\n")
            .append("    public static void main(String[] arguments) {\n");
        for (List<Readme.Line> piece : readme.pieces("java")) {
            for (Readme.Line line : piece) {
                all.append("        ").append(looked(line, wrong)).append('\n');
            }
        }
        return all.append("        System.out.println(\"" + Readme.NAME + ": \" + calls + \" calls, \" + wrong"
                + " + \" not as shown\");\n")
            .append("        System.exit(wrong > 0 || calls == 0 ? 1 : 0);\n")
            .append("    }\n")
            .append("}\n").toString();
    }

    /** A line as it stands there; if it is a call, its answer is looked at. */
    private static String looked(Readme.Line line, List<String> wrong) {
        Matcher call = CALL.matcher(line.words());
        if (!call.matches()) {
            return line.words();
        }
        Matcher answer = ANSWER.matcher(call.group(3));
        if (!answer.matches()) {
            wrong.add(Readme.NAME + ":" + line.number() + ": no answer is shown of " + call.group(2));
            return line.words();
        }
        String due = answer.group(1);
        String value = Character.isLetter(due.charAt(0)) ? "ClockFeet." + due : due + "L";
        String words = call.group(2).replace("\\", "\\\\").replace("\"", "\\\"");
        return call.group(1) + "shown(" + line.number() + ", \"" + words + "\", " + value + ", " + call.group(2) + ");"
            + call.group(3);
    }
}
