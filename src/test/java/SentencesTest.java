import java.lang.reflect.Method;
import java.nio.file.Files;
import java.nio.file.Path;
import java.util.ArrayList;
import java.util.List;
import java.util.stream.Collectors;
import java.util.stream.Stream;

/** Every word of the promises, and of the parts that they rest on, is named by a test that tries it. */
public final class SentencesTest {
    private static final Path TESTS = Path.of("src/test/java");

    private final List<Says> named = new ArrayList<>();

    private SentencesTest() {
    }

    public static void main(String[] args) throws Exception {
        SentencesTest all = new SentencesTest();
        all.collect();
        for (int n = 1; n <= Doc.PROMISES; n++) {
            all.dueNamed("promise " + n, Doc.promise(n), all.textsOf(n, ""));
        }
        for (String part : Doc.TERMS) {
            all.dueNamed(part, Doc.part(part), all.textsOf(0, part));
        }
        all.dueNamed(Doc.CONSTANTS, Doc.part(Doc.CONSTANTS), all.textsOf(0, Doc.CONSTANTS));
        System.out.println(all.named.size() + " sentences and parts of some are named");
        Check.finish();
    }

    private void collect() throws Exception {
        List<String> names;
        try (Stream<Path> files = Files.list(TESTS)) {
            names = files.map(f -> f.getFileName().toString()).filter(f -> f.endsWith("Test.java")).sorted()
                .collect(Collectors.toList());
        }
        for (String name : names) {
            Class<?> tests = Class.forName(name.replace(".java", ""));
            for (Method m : tests.getDeclaredMethods()) {
                for (Says says : m.getAnnotationsByType(Says.class)) {
                    named.add(says);
                    dueInRange(m, says);
                }
            }
        }
    }

    private static void dueInRange(Method m, Says says) {
        Check.due(m.getName() + " names a promise", says.promise().length > 0, true);
        for (int n : says.promise()) {
            Check.due(m.getName() + ": there is a promise " + n, n >= 1 && n <= Doc.PROMISES, true);
        }
        Check.due(m.getName() + ": \"" + says.text() + "\" stands there", Doc.has(says), true);
    }

    /** What is named under a promise's own heading, or in a part. */
    private List<String> textsOf(int promise, String part) {
        List<String> texts = new ArrayList<>();
        for (Says says : named) {
            for (int n : says.promise()) {
                if (says.part().equals(part) && (n == promise || promise == 0)) {
                    texts.add(says.text());
                }
            }
        }
        return texts;
    }

    private void dueNamed(String where, String text, List<String> texts) {
        boolean[] covered = new boolean[text.length()];
        for (String one : texts) {
            for (int at = text.indexOf(one); at >= 0; at = text.indexOf(one, at + 1)) {
                for (int i = 0; i < one.length(); i++) {
                    covered[at + i] = true;
                }
            }
        }
        StringBuilder left = new StringBuilder();
        for (int i = 0; i < covered.length; i++) {
            left.append(covered[i] ? ' ' : text.charAt(i));
        }
        String words = left.toString().replaceAll("[^A-Za-z0-9]+", " ").trim();
        Check.due(where + ": no test names \"" + words + "\"", words.isEmpty(), true);
    }
}
