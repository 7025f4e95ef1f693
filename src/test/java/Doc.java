import java.io.IOException;
import java.nio.file.Files;
import java.nio.file.Path;
import java.util.Arrays;
import java.util.LinkedHashMap;
import java.util.Map;

/** The document's sentences: what a test quotes must stand there, and none may be left without a test. */
final class Doc {
    private static final String PATH = "../shared/DOC.md";
    private static final Map<String, Section> SECTIONS = new LinkedHashMap<>();

    private static final class Section {
        final StringBuilder words = new StringBuilder();
        boolean[] quoted = {};

        /** Marks the words wherever they stand; answers whether they do. */
        boolean quote(String sentence) {
            quoted = Arrays.copyOf(quoted, words.length());
            int at = words.indexOf(sentence);
            boolean found = at >= 0;
            while (at >= 0) {
                Arrays.fill(quoted, at, at + sentence.length(), true);
                at = words.indexOf(sentence, at + 1);
            }
            return found;
        }

        String left() {
            StringBuilder left = new StringBuilder();
            quoted = Arrays.copyOf(quoted, words.length());
            for (int i = 0; i < words.length(); i++) {
                left.append(quoted[i] ? '\n' : words.charAt(i));
            }
            return left.toString();
        }
    }

    private Doc() {
    }

    static void read() throws IOException {
        Section section = new Section();
        for (String line : Files.readAllLines(Path.of(PATH))) {
            if (line.startsWith("## ")) {
                section = new Section();
                SECTIONS.put(line.substring(3).replaceAll(":.*", ""), section);
            } else if (!line.startsWith("```")) {
                section.words.append(withoutFace(line)).append(' ');
            }
        }
    }

    /** A promise's first row begins with its method; the rows of parameters and steps are set in. */
    private static String withoutFace(String line) {
        return line.strip().replaceFirst("^`[A-Za-z]+ ?[^`]*\\)[^`]*`: ", "").replaceFirst("^- ", "");
    }

    /** The test that goes on is of these sentences. */
    static void says(String section, String... sentences) {
        Check.isOf(section + ": " + String.join(" .. ", sentences));
        Section found = SECTIONS.get(section);
        for (String sentence : sentences) {
            Check.isTrue("that the document says: " + sentence, found != null && found.quote(sentence));
        }
    }

    /** No sentence of these sections is without a test, but those that are passed over. */
    static void nothingLeft(String beginning, String... passedOver) {
        Check.isOf("");
        for (Map.Entry<String, Section> entry : SECTIONS.entrySet()) {
            if (!entry.getKey().startsWith(beginning)) {
                continue;
            }
            for (String sentence : passedOver) {
                entry.getValue().quote(sentence);
            }
            for (String left : entry.getValue().left().split("\n+")) {
                Check.isTrue(entry.getKey() + ": a test of \"" + left.strip() + "\"", left.isBlank());
            }
        }
    }
}
