import java.lang.reflect.InvocationTargetException;
import java.lang.reflect.Method;
import java.util.Arrays;
import java.util.Comparator;

/** Compares answers with those that are due, and ends the machine with 1 if one was another. */
final class Due {
    private final String test;
    private String sentence = "";
    private int wrong = 0;
    private int right = 0;

    Due(String test) {
        this.test = test;
    }

    void is(String call, long got, long want) {
        if (got == want) {
            right++;
        } else {
            wrong++;
            System.out.println(test + ": " + sentence + call + " answered " + got + ", due is " + want);
        }
    }

    void same(String call, String got, String want) {
        if (got.equals(want)) {
            right++;
        } else {
            wrong++;
            System.out.println(test + ": " + sentence + call + " told\n" + got + "\ndue is\n" + want);
        }
    }

    /** Runs each method whose name begins with a promise, such as promise04...; each must compare an answer. */
    void runSentences(Class<?> tests, int... promises) {
        Method[] methods = tests.getDeclaredMethods();
        Arrays.sort(methods, Comparator.comparing(Method::getName));
        int ran = 0;
        for (int promise : promises) {
            String start = String.format("promise%02d", promise);
            int ranBefore = ran;
            for (Method method : methods) {
                if (method.getName().startsWith(start)) {
                    runSentence(method);
                    ran++;
                }
            }
            is("has a test of promise " + promise, ran > ranBefore ? 1 : 0, 1);
        }
        long named = Arrays.stream(methods).filter(method -> method.getName().startsWith("promise")).count();
        is("tests that ran", ran, named);
        System.out.println(test + ": " + ran + " sentences");
    }

    private void runSentence(Method method) {
        sentence = method.getName() + ": ";
        int before = right + wrong;
        try {
            method.setAccessible(true);
            method.invoke(null);
        } catch (InvocationTargetException | IllegalAccessException e) {
            wrong++;
            System.out.println(test + ": " + sentence + "threw " + e + ", " + e.getCause());
        }
        is("has compared an answer", right + wrong > before ? 1 : 0, 1);
        sentence = "";
    }

    void end() {
        System.out.println(test + ": " + right + " answers as due, " + wrong + " not");
        if (wrong != 0 || right == 0) {
            System.exit(1);
        }
    }
}
