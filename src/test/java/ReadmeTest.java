import java.io.IOException;
import java.lang.reflect.Method;
import java.nio.charset.StandardCharsets;
import java.nio.file.Files;
import java.nio.file.Path;
import java.util.ArrayList;
import java.util.HashSet;
import java.util.List;
import java.util.Set;
import java.util.regex.Matcher;
import java.util.regex.Pattern;
import java.util.stream.Collectors;
import java.util.stream.Stream;

/** What README.md shows: its runs of calls answer so, and nothing of the face and of the tests is left out. */
public final class ReadmeTest {
    private static final String NEW = "SecretEnds x = new SecretEnds();";
    private static final Pattern BLOCK = Pattern.compile("(?s)```java\n(.*?)```");
    private static final Pattern CALL = Pattern.compile("x\\.(\\w+)\\(([^()]*)\\); *// (true|false|NONE|-?\\d+)(:.*)?");

    private static final Pattern METHOD = Pattern.compile("public \\w+ (\\w+)\\(([^()]*)\\)");

    private final Set<String> shown = new HashSet<>();
    private SecretEnds x = null;
    private int calls = 0;

    private ReadmeTest() {
    }

    public static void main(String[] args) throws Exception {
        String text = Files.readString(Path.of("README.md"), StandardCharsets.UTF_8);
        ReadmeTest readme = new ReadmeTest();
        Matcher block = BLOCK.matcher(text);
        while (block.find()) {
            for (String line : block.group(1).split("\n")) {
                readme.tryLine(line);
            }
        }
        for (String declared : Doc.face()) {
            Matcher method = METHOD.matcher(declared);
            if (method.matches()) {
                String name = method.group(1);
                String call = name + "(" + method.group(2).replaceAll("\\w+ (\\w+)", "$1") + ")";
                Check.due("a run shows " + name, readme.shown.contains(name), true);
                Check.due("the table of calls has " + call, text.contains("\n| `" + call + "` | "), true);
            }
        }
        for (String name : insideAndTests()) {
            Check.due("a table names " + name, text.matches("(?s).*\n\\|[^|\n]*`" + name + "`.*"), true);
        }
        Check.finish();
    }

    private void tryLine(String line) throws ReflectiveOperationException {
        if (line.equals(NEW)) {
            x = new SecretEnds();
            calls = 0;
            return;
        }
        Matcher call = CALL.matcher(line);
        boolean understood = x != null && call.matches();
        Check.due("README.md: '" + line + "' is a call with its answer", understood, true);
        if (understood) {
            calls++;
            shown.add(call.group(1));
            Check.due("README.md: an object's calls are at most 512", calls <= Counted.MOST, true);
            Object got = answer(call.group(1), call.group(2));
            String due = call.group(3).equals("NONE") ? String.valueOf(SecretEnds.NONE) : call.group(3);
            Check.due("README.md: '" + line + "' (it answers " + got + ")", String.valueOf(got).equals(due), true);
        }
    }

    private Object answer(String name, String arguments) throws ReflectiveOperationException {
        String[] parts = arguments.split(", ");
        for (Method m : SecretEnds.class.getDeclaredMethods()) {
            if (m.getName().equals(name) && m.getParameterCount() == parts.length) {
                Object[] values = new Object[parts.length];
                for (int i = 0; i < parts.length; i++) {
                    values[i] = m.getParameterTypes()[i] == boolean.class ? bool(parts[i]) : (Object) number(parts[i]);
                }
                return m.invoke(x, values);
            }
        }
        return "nothing, for there is no such call";
    }

    private static boolean bool(String text) {
        if (!text.equals("true") && !text.equals("false")) {
            throw new IllegalArgumentException("README.md: no boolean: " + text);
        }
        return text.equals("true");
    }

    private static int number(String text) {
        return text.startsWith("0x") ? Integer.parseUnsignedInt(text.substring(2), 16) : Integer.parseInt(text);
    }

    private static List<String> insideAndTests() throws IOException {
        List<String> names = new ArrayList<>();
        for (Class<?> inside : SecretEnds.class.getDeclaredClasses()) {
            names.add(inside.getSimpleName());
        }
        try (Stream<Path> files = Files.list(Path.of("src/test/java"))) {
            names.addAll(files.map(f -> f.getFileName().toString()).filter(f -> f.endsWith("Test.java"))
                .map(f -> f.replace(".java", "")).collect(Collectors.toList()));
        }
        return names;
    }
}
