import java.io.IOException;
import java.lang.reflect.Field;
import java.lang.reflect.Method;
import java.lang.reflect.Modifier;
import java.nio.file.Files;
import java.nio.file.Path;
import java.util.List;
import java.util.Set;
import java.util.TreeSet;
import java.util.regex.Matcher;
import java.util.regex.Pattern;
import java.util.stream.Stream;

/** README.md but for what its calls answer, which the program that ReadmeProgram makes looks at. */
final class ReadmeTest {
    private static final Path TESTS = Path.of("src/test/java");

    private final Checks c;
    private final Readme readme = new Readme();

    private ReadmeTest(Checks c) {
        this.c = c;
    }

    static void run(Checks c) {
        c.beside(Readme.NAME);
        ReadmeTest test = new ReadmeTest(c);
        test.everyCallIsShown();
        test.everyConstantIsTold();
        test.pathsAreThere();
        test.wayToRunTheTests();
        test.everyTestIsToldAndRun();
    }

    private static Set<String> found(String words, String pattern) {
        Set<String> all = new TreeSet<>();
        Matcher each = Pattern.compile(pattern).matcher(words);
        while (each.find()) {
            all.add(each.group(1));
        }
        return all;
    }

    private void everyCallIsShown() {
        StringBuilder code = new StringBuilder();
        for (List<Readme.Line> piece : readme.pieces("java")) {
            for (Readme.Line line : piece) {
                code.append(line.words().replaceAll("//.*", "")).append('\n');
            }
        }
        Set<String> due = new TreeSet<>();
        for (Method method : ClockFeet.class.getDeclaredMethods()) {
            if (Modifier.isPublic(method.getModifiers())) {
                due.add(method.getName());
            }
        }
        c.same(found(code.toString(), "\\bclock\\.(\\w+)\\(").toString(), due.toString());
        c.is(code.indexOf("new ClockFeet()") >= 0 ? 1 : 0, 1);
    }

    private void everyConstantIsTold() {
        Set<String> due = new TreeSet<>();
        for (Field field : ClockFeet.class.getDeclaredFields()) {
            if (Modifier.isPublic(field.getModifiers())) {
                due.add("`" + field.getName() + "` | " + valueOf(field));
            }
        }
        c.same(found(readme.all(), "\\| (`[A-Z]+` \\| -?\\d+) \\|").toString(), due.toString());
    }

    private static int valueOf(Field constant) {
        try {
            return constant.getInt(null);
        } catch (IllegalAccessException hidden) {
            return 0;
        }
    }

    /** Whatever the page names with a slash in it. */
    private void pathsAreThere() {
        Set<String> paths = found(readme.all(), "`((?:\\.\\./|\\.?\\w)[^` ]*/[^` ]*)`");
        c.is(paths.contains("../shared/DOC.md") && paths.contains(".ci/run") ? 1 : 0, 1);
        for (String path : paths) {
            c.same(Files.exists(Path.of(path)) ? path : "missing", path);
        }
    }

    /** The script that runs this test is the one that the page tells to run. */
    private void wayToRunTheTests() {
        String running = System.getProperty("tests.script", ".ci/run");
        List<List<Readme.Line>> pieces = readme.pieces("sh");
        c.is(pieces.size(), 2);
        List<Readme.Line> told = pieces.get(pieces.size() - 1);
        c.is(told.size(), 1);
        c.same(told.get(0).words(), "bash " + running);
        c.is(Files.isExecutable(Path.of(running)) ? 1 : 0, 1);
    }

    private void everyTestIsToldAndRun() {
        Set<String> due = new TreeSet<>();
        try (Stream<Path> files = Files.list(TESTS)) {
            files.map(file -> file.getFileName().toString()).filter(name -> name.endsWith("Test.java"))
                .forEach(name -> due.add(name.replace(".java", "")));
            c.same(found(readme.all(), "`(\\w+Test)`").toString(), due.toString());
            String runs = Files.readString(TESTS.resolve("RunAll.java"));
            c.same(found(runs, "(\\w+Test)\\.run\\(c\\);").toString(), due.toString());
        } catch (IOException missing) {
            c.wrong("can't read " + missing.getMessage());
        }
    }
}
