import java.io.IOException;
import java.lang.reflect.Constructor;
import java.lang.reflect.Field;
import java.lang.reflect.Method;
import java.lang.reflect.Modifier;
import java.nio.file.Files;
import java.nio.file.Path;
import java.util.Set;
import java.util.TreeSet;
import java.util.regex.Matcher;
import java.util.regex.Pattern;

/** The public face, its constants, and the rules of LANGUAGE.md that can be looked for; the argument is the file. */
public final class FaceTest {
    private static final Due DUE = new Due("FaceTest");

    private static final Set<String> FACE = new TreeSet<>(Set.of(
        "int setLimit(int)", "int setHead(int, boolean, int)", "int read(int)", "int write(int, int)",
        "int copy(int, int, int)", "int test(int)", "int perform()", "int giveBack(int)", "int giveUp(int)",
        "int type(char)", "int clearText()", "int undo()", "int keep()", "int restore()", "int address(int, int)",
        "int sector(int, int)", "int head(int, int)", "int readsLeft(int)", "int wouldLose(int)", "int worst(int)",
        "int count(int)"));
    private static final Set<String> CONSTANTS = new TreeSet<>(Set.of(
        "UNKNOWN = -1", "BAD_VALUE = -2", "FULL = -3", "NOT_POSSIBLE = -4", "NONE = -5"));

    /** What the rules rule out, or what no promise needs; looked for behind the taking out of comments. */
    private static final String[] RULED_OUT = {
        "\\b(throw|throws|try|catch|finally|synchronized|assert|import|package|instanceof|native|volatile|transient)\\b",
        "->", "::", "\\bstatic\\s*\\{", "\\b(equals|hashCode|toString|System\\.(?!arraycopy)\\w+|Thread|Object)\\b",
        "\\b\\w+Exact\\b", "\"", "\\bnew\\s+\\w+\\s*\\([^)]*\\)\\s*\\{", "\\b(double|float)\\b",
    };

    public static void main(String[] args) throws IOException, ReflectiveOperationException {
        methods();
        constants();
        members();
        if (args.length > 0) {
            source(Files.readString(Path.of(args[0])));
        }
        DUE.end();
    }

    private static void methods() {
        Set<String> got = new TreeSet<>();
        Set<String> names = new TreeSet<>();
        for (Method method : LentSectors.class.getDeclaredMethods()) {
            if (Modifier.isPublic(method.getModifiers())) {
                StringBuilder types = new StringBuilder();
                for (Class<?> type : method.getParameterTypes()) {
                    types.append(types.length() == 0 ? "" : ", ").append(type);
                }
                got.add(method.getReturnType() + " " + method.getName() + "(" + types + ")");
                DUE.is("static " + method, Modifier.isStatic(method.getModifiers()) ? 1 : 0, 0);
                DUE.is("a second " + method.getName(), names.add(method.getName()) ? 0 : 1, 0);
            }
        }
        DUE.is("the methods " + got, got.equals(FACE) ? 1 : 0, 1);
        for (Method method : LentSectors.class.getDeclaredMethods()) {
            if (!Modifier.isPublic(method.getModifiers())) {
                DUE.is("hidden " + method.getName(), names.contains(method.getName()) ? 1 : 0, 0);
                DUE.is("private " + method.getName(), Modifier.isPrivate(method.getModifiers()) ? 1 : 0, 1);
            }
        }
    }

    private static void constants() throws IllegalAccessException {
        Set<String> got = new TreeSet<>();
        for (Field field : LentSectors.class.getDeclaredFields()) {
            int modifiers = field.getModifiers();
            if (Modifier.isPublic(modifiers)) {
                DUE.is("constant " + field, Modifier.isStatic(modifiers) && Modifier.isFinal(modifiers) ? 1 : 0, 1);
                got.add(field.getName() + " = " + field.get(null));
            } else {
                DUE.is("private " + field, Modifier.isPrivate(modifiers) ? 1 : 0, 1);
            }
        }
        DUE.is("the constants " + got, got.equals(CONSTANTS) ? 1 : 0, 1);
    }

    private static void members() {
        DUE.is("public final", LentSectors.class.getModifiers(), Modifier.PUBLIC | Modifier.FINAL);
        DUE.is("package", LentSectors.class.getPackageName().length(), 0);
        Constructor<?>[] constructors = LentSectors.class.getDeclaredConstructors();
        DUE.is("constructors", constructors.length, 1);
        DUE.is("its parameters", constructors[0].getParameterCount(), 0);
        DUE.is("it is public", Modifier.isPublic(constructors[0].getModifiers()) ? 1 : 0, 1);
        for (Class<?> inside : LentSectors.class.getDeclaredClasses()) {
            DUE.is("static " + inside, Modifier.isStatic(inside.getModifiers()) ? 1 : 0, 1);
            DUE.is("public " + inside, Modifier.isPublic(inside.getModifiers()) ? 1 : 0, 0);
        }
    }

    private static void source(String file) {
        String code = file.replaceAll("(?s)/\\*.*?\\*/", "").replaceAll("//[^\n]*", "");
        for (String pattern : RULED_OUT) {
            Matcher matcher = Pattern.compile(pattern).matcher(code);
            DUE.is(pattern + (matcher.find() ? " found as " + matcher.group() : ""), matcher.reset().results().count(), 0);
        }
        DUE.is("characters of other alphabets", file.chars().filter(c -> c > 126).count(), 0);
    }
}
