import java.io.IOException;
import java.nio.file.Files;
import java.nio.file.Path;
import java.util.LinkedHashMap;
import java.util.Map;
import java.util.regex.Matcher;
import java.util.regex.Pattern;

/**
 * The document by its sections, each with what of it has not been quoted. A quote that the document does not
 * have is a fault, and so is a sentence that nobody quotes: so none that names a boundary can be forgotten.
 */
final class Document {
    private static final Path FILE = Path.of("../shared/DOC.md");
    private static final Map<String, Section> SECTIONS = read();

    private static final class Section {
        final String text;
        final StringBuilder unquoted;

        Section(String text) {
            this.text = text;
            unquoted = new StringBuilder(text);
        }
    }

    private Document() {
    }

    /** Line breaks and back quotes do not count. */
    static void quote(String name, String sentence) {
        String wanted = plain(sentence);
        Section section = SECTIONS.get(name);
        int at = section == null ? -1 : section.text.indexOf(wanted);
        if (at < 0) {
            Run.fault("the document has not under " + name + ": " + wanted);
        }
        for (; at >= 0; at = section.text.indexOf(wanted, at + 1)) {
            for (int i = at; i < at + wanted.length(); i++) {
                section.unquoted.setCharAt(i, '\n');
            }
        }
    }

    static void tellUnquoted() {
        SECTIONS.forEach((name, section) -> {
            for (String left : section.unquoted.toString().split("\n+")) {
                if (left.matches(".*[A-Za-z0-9].*")) {
                    Run.fault("no test quotes this under " + name + ": " + left.strip());
                }
            }
        });
    }

    private static String plain(String text) {
        return text.replace("`", "").replaceAll("\\s+", " ").strip();
    }

    private static Map<String, Section> read() {
        Map<String, Section> sections = new LinkedHashMap<>();
        try {
            Matcher section = Pattern.compile("(?ms)^## ([^\n]*)\n(.*?)(?=^## |\\z)").matcher(Files.readString(FILE));
            while (section.find()) {
                String name = section.group(1).replaceFirst("(Promise [0-9]+):.*", "$1");
                // The signature before the first colon is part of the face, which FaceTest tests.
                sections.put(name, new Section(plain(section.group(2).replaceFirst("\\A\\s*`[^`]*`:", ""))));
            }
        } catch (IOException e) {
            throw new AssertionError("the document cannot be read", e);
        }
        sections.remove("The public face");
        sections.remove("Not promised");
        return sections;
    }
}
