import java.lang.reflect.Constructor;
import java.lang.reflect.Field;
import java.lang.reflect.Method;
import java.lang.reflect.Modifier;
import java.util.Arrays;
import java.util.Set;
import java.util.TreeSet;
import java.util.stream.Collectors;

/** The class has the public face of the document, and nothing else that is not private (rule 1 of LANGUAGE.md). */
public final class FaceTest {
    private FaceTest() {
    }

    public static void main(String[] args) throws ReflectiveOperationException {
        Set<String> want = new TreeSet<>();
        for (String declared : Doc.face()) {
            // Names of parameters are not kept in a compiled class.
            want.add(declared.replaceAll("(?<=[(, ])(int|boolean) \\w+(?=[,)])", "$1"));
        }
        Set<String> got = seen();
        for (String one : want) {
            Check.due("the class has '" + one + "'", got.contains(one), true);
        }
        for (String one : got) {
            Check.due("the document has '" + one + "'", want.contains(one), true);
        }
        Check.due("the document's face has so many lines", want.size(), Doc.PROMISES + 2);
        Check.finish();
    }

    private static Set<String> seen() throws ReflectiveOperationException {
        Class<?> all = SecretEnds.class;
        Set<String> face = new TreeSet<>();
        face.add(Modifier.toString(all.getModifiers()) + " class " + all.getName());
        for (Field f : all.getDeclaredFields()) {
            if (!Modifier.isPrivate(f.getModifiers())) {
                String value = Modifier.isStatic(f.getModifiers()) ? " = " + f.get(null) : "";
                face.add(Modifier.toString(f.getModifiers()) + " " + f.getType() + " " + f.getName() + value);
            }
        }
        for (Constructor<?> c : all.getDeclaredConstructors()) {
            face.add(Modifier.toString(c.getModifiers()) + " " + c.getName() + listed(c.getParameterTypes()));
        }
        for (Method m : all.getDeclaredMethods()) {
            if (!Modifier.isPrivate(m.getModifiers())) {
                String modifiers = Modifier.toString(m.getModifiers());
                face.add(modifiers + " " + m.getReturnType() + " " + m.getName() + listed(m.getParameterTypes()));
            }
        }
        return face;
    }

    private static String listed(Class<?>[] types) {
        return Arrays.stream(types).map(Class::getName).collect(Collectors.joining(", ", "(", ")"));
    }
}
