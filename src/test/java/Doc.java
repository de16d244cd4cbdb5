import java.io.IOException;
import java.io.UncheckedIOException;
import java.nio.file.Files;
import java.nio.file.Path;
import java.util.ArrayList;
import java.util.List;
import java.util.regex.Matcher;
import java.util.regex.Pattern;

/** The document's own words, so that a test names the sentence that it looks after. */
final class Doc {
    private static final String TEXT = read();
    private static String sentence = "";

    private Doc() {
    }

    private static String read() {
        try {
            return Files.readString(Path.of("../shared/DOC.md"));
        } catch (IOException e) {
            throw new UncheckedIOException(e);
        }
    }

    private static String flat(String text) {
        return text.replaceAll("\\s+", " ");
    }

    /** The checks from here on are about these words, which must stand in the document. */
    static void says(String words) {
        sentence = words;
        Check.same("the document says: " + words, true, flat(TEXT).contains(words));
    }

    static void due(String what, Object want, Object got) {
        Check.same("\"" + sentence + "\" " + what, want, got);
    }

    static void raises(String what, Class<? extends RuntimeException> want, java.util.function.Supplier<Object> call) {
        Check.raises("\"" + sentence + "\" " + what, want, call);
    }

    /** For each promise the exceptions that it lists, each as "number name", in its order. */
    static List<List<String>> exceptions() {
        List<List<String>> all = new ArrayList<>();
        for (String part : TEXT.split("\n## Promise ")) {
            Matcher number = Pattern.compile("^\\d+").matcher(part);
            if (number.find()) {
                List<String> listed = new ArrayList<>();
                Matcher line = Pattern.compile("(?m)^Throws `(\\w+)`").matcher(part);
                while (line.find()) {
                    listed.add(number.group() + " " + line.group(1));
                }
                all.add(listed);
            }
        }
        return all;
    }
}
