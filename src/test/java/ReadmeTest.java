import java.io.File;
import java.io.IOException;
import java.lang.reflect.Field;
import java.lang.reflect.Method;
import java.lang.reflect.Modifier;
import java.nio.file.Files;
import java.nio.file.Path;
import java.util.regex.Matcher;
import java.util.regex.Pattern;

/** That README.md holds: its example answers as it says, and it names every call, constant and test. */
public final class ReadmeTest {
    private static final Due DUE = new Due("ReadmeTest");
    private static final Pattern EXAMPLE = Pattern.compile("```java\n(.*?)```", Pattern.DOTALL);
    private static final Pattern CALL = Pattern.compile("disk\\.(\\w+)\\(([0-9, ]*)\\);\\s*// (-?\\d+|LentSectors\\.\\w+)\\b.*");
    private static final Pattern TYPING = Pattern.compile("for \\(char sign : \"([^\"]*)\"\\.toCharArray\\(\\)\\) \\{");
    /** What the example is known to show; a line that is not understood would leave fewer. */
    private static final int CALLS_SHOWN = 8;

    public static void main(String[] args) throws IOException, ReflectiveOperationException {
        String readme = Files.readString(Path.of("README.md"));
        example(readme);
        calls(readme);
        constants(readme);
        tests(readme);
        DUE.end();
    }

    private static void example(String readme) throws ReflectiveOperationException {
        Matcher example = EXAMPLE.matcher(readme);
        DUE.is("an example", example.find() ? 1 : 0, 1);
        LentSectors disk = new LentSectors();
        int shown = 0;
        for (String line : example.group(1).split("\n")) {
            Matcher call = CALL.matcher(line);
            Matcher typing = TYPING.matcher(line);
            if (call.matches()) {
                DUE.is(line, answer(disk, call.group(1), call.group(2)), number(call.group(3)));
                shown++;
            } else if (typing.matches()) {
                for (char sign : typing.group(1).toCharArray()) {
                    disk.type(sign);
                }
            }
        }
        DUE.is("calls of the example", shown, CALLS_SHOWN);
    }

    private static int answer(LentSectors disk, String name, String list) throws ReflectiveOperationException {
        String[] texts = list.isEmpty() ? new String[0] : list.split(", *");
        Class<?>[] types = new Class<?>[texts.length];
        Object[] numbers = new Object[texts.length];
        for (int i = 0; i < texts.length; i++) {
            types[i] = int.class;
            numbers[i] = Integer.parseInt(texts[i]);
        }
        return (int) LentSectors.class.getMethod(name, types).invoke(disk, numbers);
    }

    private static int number(String text) throws ReflectiveOperationException {
        String[] parts = text.split("\\.");
        return parts.length == 1 ? Integer.parseInt(text) : LentSectors.class.getField(parts[1]).getInt(null);
    }

    private static void calls(String readme) {
        for (Method method : LentSectors.class.getDeclaredMethods()) {
            if (Modifier.isPublic(method.getModifiers())) {
                names(readme, "`" + method.getName() + "`");
            }
        }
    }

    private static void constants(String readme) throws IllegalAccessException {
        for (Field field : LentSectors.class.getFields()) {
            names(readme, "`" + field.getName() + "` (" + field.getInt(null) + ")");
        }
    }

    private static void tests(String readme) {
        String[] files = new File("src/test/java").list();
        DUE.is("a folder of tests", files == null ? 0 : 1, 1);
        for (String file : files == null ? new String[0] : files) {
            if (file.endsWith("Test.java")) {
                names(readme, "| `" + file.substring(0, file.length() - ".java".length()) + "` |");
            }
        }
        names(readme, ".ci/run");
        DUE.is(".ci/run can be run", new File(".ci/run").canExecute() ? 1 : 0, 1);
    }

    private static void names(String readme, String part) {
        DUE.is("README.md names " + part, readme.contains(part) ? 1 : 0, 1);
    }
}
