import java.lang.reflect.InvocationTargetException;
import java.lang.reflect.Method;
import java.lang.reflect.Modifier;
import java.util.Arrays;
import java.util.Comparator;

/** Runs tests, and counts and prints the answers that are not as due. */
final class Check {
    // One fault can make thousands of answers wrong: of each test the first ones tell enough.
    private static final int MOST_PRINTED = 20;

    private static int made = 0;
    private static int wrong = 0;
    private static int printed = 0;
    private static String test = "";

    private Check() {
    }

    /** Runs every test of a class: its methods that bear the sentence that they try. */
    static void run(Class<?> tests) {
        Method[] all = tests.getDeclaredMethods();
        Arrays.sort(all, Comparator.comparing(Method::getName));
        for (Method m : all) {
            Says[] sentences = m.getAnnotationsByType(Says.class);
            if (sentences.length > 0) {
                runOne(m, sentences);
            } else {
                due(m.getName() + " looks like a test but names no sentence", isLikeATest(m), false);
            }
        }
        finish();
    }

    private static boolean isLikeATest(Method m) {
        return m.getReturnType() == void.class && m.getParameterCount() == 0 && !m.isSynthetic();
    }

    private static void runOne(Method m, Says[] sentences) {
        StringBuilder name = new StringBuilder(m.getName());
        for (Says says : sentences) {
            name.append(says == sentences[0] ? " (promise " : "; promise ").append(listed(says.promise()));
            name.append(says.part().isEmpty() ? "" : ", " + says.part()).append(": \"").append(says.text()).append('"');
        }
        test = name.append("): ").toString();
        printed = 0;
        for (Says says : sentences) {
            due("the document has \"" + says.text() + "\" there", Doc.has(says), true);
        }
        due("it is a static method without parameters", Modifier.isStatic(m.getModifiers()) && isLikeATest(m), true);
        try {
            m.setAccessible(true);
            m.invoke(null);
        } catch (InvocationTargetException e) {
            e.getCause().printStackTrace(System.out);
            due("it ends without an exception", false, true);
        } catch (IllegalAccessException e) {
            throw new IllegalStateException(e);
        }
        test = "";
    }

    private static String listed(int[] promises) {
        return Arrays.toString(promises).replaceAll("[\\[\\]]", "");
    }

    static void due(String what, long got, long want) {
        made++;
        if (got != want) {
            wrong++;
            printed++;
            if (printed <= MOST_PRINTED) {
                System.out.println(test + what + " answered " + got + ", due is " + want);
            }
        }
    }

    static void due(String what, boolean got, boolean want) {
        due(what, got ? 1 : 0, want ? 1 : 0);
    }

    static void dueBytes(String what, byte[] got, byte[] want) {
        due(what + ": length", got.length, want.length);
        for (int i = 0; i < got.length && i < want.length; i++) {
            due(what + ": byte " + i, got[i] & 255, want[i] & 255);
        }
    }

    static void finish() {
        System.out.println(made + " answers, " + wrong + " not as due");
        if (wrong != 0) {
            System.exit(1);
        }
    }
}
