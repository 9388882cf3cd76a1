import java.io.IOException;
import java.nio.file.Files;
import java.nio.file.Path;
import java.util.ArrayList;
import java.util.List;

/** The sections of the document, so that a test can name the very sentence that it is for. */
final class Document {
    private static final Path PLACE = Path.of("../shared/DOC.md");

    private final List<String> sections = new ArrayList<>();

    Document() {
        try {
            for (String section : Files.readString(PLACE).split("(?m)^## ")) {
                sections.add(section.replaceAll("```\\w*", " ").replace("`", "").replaceAll("\\s+", " "));
            }
        } catch (IOException e) {
            throw new IllegalStateException("the document can't be read: " + PLACE, e);
        }
    }

    /** Whether words stand in a section ("Terms", "What it is", or "Promise 7" for "Promise 7: method"). */
    boolean says(String section, String words) {
        for (String s : sections) {
            if ((s.startsWith(section + ":") || s.startsWith(section + " ")) && s.contains(words)) {
                return true;
            }
        }
        return false;
    }
}
