import java.io.IOException;
import java.lang.reflect.Constructor;
import java.lang.reflect.Field;
import java.lang.reflect.Method;
import java.lang.reflect.Modifier;
import java.nio.charset.StandardCharsets;
import java.nio.file.Files;
import java.nio.file.Path;
import java.util.Arrays;
import java.util.Set;
import java.util.TreeSet;

/** The public face of the document, and those rules of LANGUAGE.md that can be seen in the file. */
public final class FaceTest {
    private static final String[] FACE = {
        "int feed(int,int,int,int,int)", "int end(int)", "int make(boolean)", "boolean tell(int,int)",
        "boolean start(int)", "int say(int)", "int update(int,int)", "boolean close(int)", "int carry(int,int)",
        "int give(int)", "boolean meddle(int,int)", "boolean alter(int,int,int)", "int written(int,int,int)",
        "int given(int,int)", "int secret(int,int,int)", "int state(int,int)", "int hash(int)", "int about(int)"
    };
    private static final String[] WORDS = {
        "throw", "try", "catch", "synchronized", "assert", "import", "protected", "package", "->", "::",
        "System.", "equals(", "hashCode", "toString", "native", "volatile"
    };

    private FaceTest() {
    }

    public static void main(String[] args) throws IOException {
        Set<String> seen = new TreeSet<>();
        Set<String> names = new TreeSet<>();
        for (Method m : SecretEnds.class.getDeclaredMethods()) {
            if (!Modifier.isPrivate(m.getModifiers())) {
                Check.due(m + " is public", Modifier.isPublic(m.getModifiers()), true);
                String types = Arrays.toString(m.getParameterTypes()).replaceAll("[\\[\\] ]", "");
                seen.add(m.getReturnType() + " " + m.getName() + "(" + types + ")");
                names.add(m.getName());
            }
        }
        Check.due("the methods are " + seen, seen.equals(new TreeSet<>(Arrays.asList(FACE))), true);
        Check.due("the class is public and final", SecretEnds.class.getModifiers(), Modifier.PUBLIC | Modifier.FINAL);
        Constructor<?>[] makers = SecretEnds.class.getDeclaredConstructors();
        Check.due("constructors", makers.length, 1);
        Check.due("the constructor is public", Modifier.isPublic(makers[0].getModifiers()), true);
        Check.due("its parameters", makers[0].getParameterCount(), 0);
        for (Field f : SecretEnds.class.getDeclaredFields()) {
            Check.due("field " + f.getName(), Modifier.isPrivate(f.getModifiers()), !f.getName().equals("NONE"));
        }
        for (Class<?> inside : SecretEnds.class.getDeclaredClasses()) {
            lookInside(inside, names);
        }
        lookAtText(Files.readString(Path.of("src/main/java/SecretEnds.java"), StandardCharsets.UTF_8));
        Check.finish();
    }

    private static void lookInside(Class<?> inside, Set<String> names) {
        Check.due(inside + " is static", Modifier.isStatic(inside.getModifiers()), true);
        int fields = 0;
        for (Field f : inside.getDeclaredFields()) {
            boolean fixed = Modifier.isFinal(f.getModifiers());
            Check.due(f + ": static fields are final", !Modifier.isStatic(f.getModifiers()) || fixed, true);
            fields += Modifier.isStatic(f.getModifiers()) ? 0 : 1;
        }
        Check.due(inside + " has at most 20 fields", fields <= 20, true);
        for (Method m : inside.getDeclaredMethods()) {
            Check.due(m + " bears the name of a public one", names.contains(m.getName()), false);
            Check.due(m + " has at most seven parameters", m.getParameterCount() <= 7, true);
        }
    }

    private static void lookAtText(String text) {
        String code = text.replaceAll("(?s)/\\*.*?\\*/", "").replaceAll("//[^\n]*", "");
        for (String word : WORDS) {
            boolean plain = word.matches("\\w+");
            boolean found = plain ? code.matches("(?s).*\\b" + word + "\\b.*") : code.contains(word);
            Check.due("'" + word + "' stands in the program", found, false);
        }
        Check.due("all characters are plain", text.chars().allMatch(c -> c < 128), true);
    }
}
