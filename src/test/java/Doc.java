import java.io.IOException;
import java.io.UncheckedIOException;
import java.nio.charset.StandardCharsets;
import java.nio.file.Files;
import java.nio.file.Path;
import java.util.Arrays;
import java.util.List;

/** The document, by its parts; every row of blanks and line ends is one blank. */
final class Doc {
    static final int PROMISES = 19;
    static final String USE = "What it is";
    static final String CONSTANTS = "The constants";
    static final String[] TERMS = {"I", "II", "III"};

    private static final Path FILE = Path.of("../shared/DOC.md");
    private static final String ALL = load();

    private Doc() {
    }

    private static String load() {
        try {
            String text = Files.readString(FILE, StandardCharsets.UTF_8);
            return text.replaceAll("```\\w*", " ").replaceAll("\\s+", " ");
        } catch (IOException e) {
            throw new UncheckedIOException(e);
        }
    }

    private static String between(String first, String behind) {
        int from = ALL.indexOf(first);
        int to = from < 0 ? -1 : ALL.indexOf(behind, from + first.length());
        if (to < 0) {
            throw new IllegalStateException("the document has no '" + first + "' with '" + behind + "' behind it");
        }
        return ALL.substring(from + first.length(), to);
    }

    /** What stands under a promise's heading, without the call itself. */
    static String promise(int n) {
        String under = between("## Promise " + n + ": ", " ## ");
        return under.substring(under.indexOf(")`: ") + 4);
    }

    static String part(String name) {
        switch (name) {
            case "I":
                return between("==== I. ", "==== II. ");
            case "II":
                return between("==== II. ", "==== III. ");
            case "III":
                return between("==== III. ", "The constants: ");
            case CONSTANTS:
                return between("The constants: ", " ## ");
            case USE:
                return between("## What it is ", " ## ");
            default:
                throw new IllegalArgumentException("no part of the document: " + name);
        }
    }

    /** The line of the class itself, then what it declares, in the document's order, without the ends of lines. */
    static List<String> face() {
        String text = between("## The public face ", " ## ");
        String declared = text.substring(text.indexOf('{') + 1, text.lastIndexOf('}')).trim();
        return Arrays.asList((text.substring(0, text.indexOf('{')).trim() + "; " + declared).split("; ?"));
    }

    /** Whether the sentence stands where it is said to. */
    static boolean has(Says says) {
        if (!says.part().isEmpty()) {
            return part(says.part()).contains(says.text());
        }
        for (int n : says.promise()) {
            if (!promise(n).contains(says.text())) {
                return false;
            }
        }
        return true;
    }
}
