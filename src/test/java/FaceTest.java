import java.io.IOException;
import java.lang.reflect.Constructor;
import java.lang.reflect.Field;
import java.lang.reflect.Method;
import java.lang.reflect.Modifier;
import java.nio.file.Files;
import java.nio.file.Path;
import java.util.ArrayList;
import java.util.List;

/** "The public face": every constant and signature as it stands there, and no other public member. */
final class FaceTest {
    private static final Path SOURCE = Path.of("src/main/java/ClockFeet.java");
    private static final String[][] SECTIONS = {
        {"1 rows, texts, halls", "int row(int r, int n)", "int lay(int r, int i, int v)", "int at(int r, int i)",
            "int tear(int r)", "int copy(int r, int i, int to, int j, int n)", "int mean(int r)",
            "int text(int t, int n)", "int put(int t, int i, int v)", "int fault(int t)", "int hall(int t)",
            "int guild(int g, int what)", "int mark(int g, int kind)", "int shoe(int g, int v)"},
        {"2 steps", "int walk(int g)", "int floor(int v)", "int undo(int n)", "int keep(int k)", "int on(int k)"},
        {"3 how late it is", "int hour()", "int due()", "int after(int r)", "int pace()"},
        {"4 orders (aside)", "int order(int g, int tooth, int r)", "int quiet()", "int cheap()"},
        {"5 what can be had", "int fewest(int tooth)", "int feet(int tooth)", "int never()", "int keyed()"},
        {"6 who had walked (each GUILD once at most)", "int fits(int n)", "int sure(int n)", "int ask(int n)"},
        {"7 again and again", "int noon(int g)", "int both(int g, int n, int tooth)", "int rent(int g)"},
        {"8 chances, lots", "int odds(int tooth, int n)", "int lots(int n, int seed)"},
        {"9 what is told", "int asked()", "long upper()", "long lower()", "int count(int what)", "int finding()",
            "int findings(int f)", "long digest()"}};
    private static final String[] CONSTANTS = {"BAD = -1", "FULL = -2", "FINDING = -3", "STATE = -4", "SPENT = -6",
        "NONE = -9"};

    private final Checks c;
    private final String source;

    private FaceTest(Checks c, String source) {
        this.c = c;
        this.source = source;
    }

    static void run(Checks c) {
        try {
            FaceTest test = new FaceTest(c, Files.readString(SOURCE));
            test.wholeClass();
            test.constants();
            test.constructor();
            test.methods();
            test.sections();
        } catch (IOException missing) {
            c.wrong("can't read " + missing.getMessage());
        }
    }

    private void holds(boolean so, String what) {
        c.same(so ? what : "not so", what);
    }

    private void wholeClass() {
        c.sentence(Document.FACE, "public final class ClockFeet {");
        c.same(Modifier.toString(ClockFeet.class.getModifiers()), "public final");
        c.same(ClockFeet.class.getName(), "ClockFeet");
        c.same(ClockFeet.class.getSuperclass().getName(), "java.lang.Object");
        c.is(ClockFeet.class.getInterfaces().length, 0);
        c.is(ClockFeet.class.getTypeParameters().length, 0);
        for (Class<?> inside : ClockFeet.class.getDeclaredClasses()) {
            holds(!Modifier.isPublic(inside.getModifiers()), inside + " is not public");
        }
    }

    private void constants() {
        StringBuilder due = new StringBuilder();
        for (String constant : CONSTANTS) {
            due.append(due.length() == 0 ? "" : ", ").append(constant);
        }
        c.sentence(Document.FACE, "public static final int " + due + ";");
        StringBuilder got = new StringBuilder();
        for (Field field : ClockFeet.class.getDeclaredFields()) {
            if (Modifier.isPublic(field.getModifiers())) {
                c.same(Modifier.toString(field.getModifiers()) + " " + field.getType(), "public static final int");
                got.append(got.length() == 0 ? "" : ", ").append(field.getName()).append(" = ").append(valueOf(field));
            }
        }
        c.same(got.toString(), due.toString());
    }

    private static String valueOf(Field constant) {
        try {
            return Integer.toString(constant.getInt(null));
        } catch (IllegalAccessException hidden) {
            return hidden.getMessage();
        }
    }

    private void constructor() {
        c.sentence(Document.FACE, "public ClockFeet();");
        Constructor<?>[] all = ClockFeet.class.getDeclaredConstructors();
        c.is(all.length, 1);
        c.same(all[0].toString(), "public ClockFeet()");
    }

    private void methods() {
        List<String> left = new ArrayList<>();
        for (Method method : ClockFeet.class.getDeclaredMethods()) {
            if (Modifier.isPublic(method.getModifiers())) {
                left.add(method.toGenericString());
            }
        }
        for (String[] section : SECTIONS) {
            for (int i = 1; i < section.length; i++) {
                c.sentence(Document.FACE, "public " + section[i] + ";");
                String types = section[i].replaceAll("(int) \\w+(?=[,)])", "$1").replace(", ", ",");
                holds(left.remove("public " + types.replace(" ", " ClockFeet.")), section[i]);
                holds(source.contains("\n    public " + section[i] + " {\n"), section[i] + " with these names");
            }
        }
        c.same(left.toString(), "[]");
    }

    private static String nameOf(String signature) {
        return signature.substring(signature.indexOf(' ') + 1, signature.indexOf('('));
    }

    /** The calls stand in the order of the interface, each behind the heading of its section. */
    private void sections() {
        int place = 0;
        for (String[] section : SECTIONS) {
            StringBuilder names = new StringBuilder();
            for (int i = 1; i < section.length; i++) {
                names.append(i == 1 ? "`" : ", `").append(nameOf(section[i])).append('`');
            }
            c.sentence(Document.TERMS, "Ahead of the calls " + names + " the interface says: ---- " + section[0] + ".");
            place = behind(place, "\n    // ---- " + section[0] + "\n");
            for (int i = 1; i < section.length; i++) {
                place = behind(place, "\n    public " + section[i] + " {");
            }
        }
    }

    private int behind(int place, String words) {
        int at = source.indexOf(words, place);
        holds(at >= 0, words.trim() + " stands behind what is ahead of it");
        return Math.max(place, at);
    }
}
