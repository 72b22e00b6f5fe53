import java.io.IOException;
import java.lang.reflect.Field;
import java.lang.reflect.Member;
import java.lang.reflect.Method;
import java.lang.reflect.Modifier;
import java.nio.file.Files;
import java.nio.file.Path;
import java.util.ArrayList;
import java.util.HashSet;
import java.util.List;
import java.util.Set;
import java.util.regex.Pattern;

/** The rules of LANGUAGE.md that can be looked up. */
final class LanguageTest {
    private static final Path SOURCE = Path.of("src/main/java/ClockFeet.java");
    private static final String[] FORBIDDEN = {"throw", "throws", "try", "catch", "synchronized",
        "assert", "import", "package", "protected", "default ->", "->", "::", "@", "record", "Object",
        "toString", "hashCode", "equals", "System.out", "System.nanoTime", "System.currentTimeMillis",
        "Random", "static {", "String", "Exception", "NaN", "yield", "var"};

    private LanguageTest() {
    }

    static void run(Checks c) {
        c.beside("LANGUAGE.md");
        try {
            String source = Files.readString(SOURCE);
            words(c, codeOf(source));
            lengths(c, source);
        } catch (IOException missing) {
            c.wrong("can't read " + missing.getMessage());
        }
        members(c);
        sizes(c);
    }

    private static String codeOf(String source) {
        return source.replaceAll("(?s)/\\*.*?\\*/", "").replaceAll("//[^\n]*", "");
    }

    private static void words(Checks c, String code) {
        for (String word : FORBIDDEN) {
            boolean letters = Character.isLetter(word.charAt(0)) && Character.isLetter(word.charAt(word.length() - 1));
            String found = letters ? "\\b" + Pattern.quote(word) + "\\b" : Pattern.quote(word);
            if (Pattern.compile(found).matcher(code).find()) {
                c.wrong("the program holds '" + word + "'");
            } else {
                c.right();
            }
        }
    }

    /** Signs 1 to 127 alone, and methods that stay short. */
    private static void lengths(Checks c, String source) {
        c.is(source.chars().filter(sign -> sign < 1 || sign > 127).count(), 0);
        int begin = 0;
        String[] lines = source.split("\n");
        for (int i = 0; i < lines.length; i++) {
            if (lines[i].matches(" {4}( {4})?(?!if |for |while |switch )\\w.*\\) \\{")) {
                begin = i;
            } else if (lines[i].matches(" {4}( {4})?\\}") && i - begin > 60) {
                c.wrong("a method of " + (i - begin) + " lines ends in line " + (i + 1));
            }
        }
    }

    private static void members(Checks c) {
        List<Member> all = new ArrayList<>();
        all.addAll(List.of(ClockFeet.class.getDeclaredMethods()));
        all.addAll(List.of(ClockFeet.class.getDeclaredFields()));
        all.addAll(List.of(ClockFeet.class.getDeclaredConstructors()));
        for (Member member : all) {
            boolean hidden = Modifier.isPrivate(member.getModifiers()) || member.isSynthetic();
            if (!hidden && !Modifier.isPublic(member.getModifiers())) {
                c.wrong(member + " is neither private nor public");
            }
        }
        Set<String> open = new HashSet<>();
        for (Method method : ClockFeet.class.getDeclaredMethods()) {
            if (Modifier.isPublic(method.getModifiers())) {
                open.add(method.getName());
            }
        }
        for (Class<?> one : classes()) {
            for (Method method : one.getDeclaredMethods()) {
                if (!Modifier.isPublic(method.getModifiers()) && open.contains(method.getName())) {
                    c.wrong(method + " bears the name of a public one");
                }
                if (method.getParameterCount() > 7) {
                    c.wrong(method + " takes more than seven parameters");
                }
            }
        }
    }

    private static List<Class<?>> classes() {
        List<Class<?>> all = new ArrayList<>(List.of(ClockFeet.class));
        all.addAll(List.of(ClockFeet.class.getDeclaredClasses()));
        return all;
    }

    private static void sizes(Checks c) {
        if (classes().size() > 12) {
            c.wrong("there are " + classes().size() + " classes");
        }
        for (Class<?> one : classes()) {
            int fields = 0;
            for (Field field : one.getDeclaredFields()) {
                boolean constant = Modifier.isStatic(field.getModifiers());
                fields += constant ? 0 : 1;
                if (constant && !Modifier.isFinal(field.getModifiers())) {
                    c.wrong(field + " is static and not final");
                }
            }
            if (fields > 20) {
                c.wrong(one + " has " + fields + " fields");
            }
            if (one != ClockFeet.class && !Modifier.isStatic(one.getModifiers())) {
                c.wrong(one + " is not static");
            }
        }
    }
}
