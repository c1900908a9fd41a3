import java.io.IOException;
import java.io.UncheckedIOException;
import java.nio.file.Files;
import java.nio.file.Path;
import java.util.Map;
import java.util.TreeMap;

/** The document by its sections; words that a test stands for are struck out of them. */
final class Document {
    private static final String STRUCK = " | ";

    private final Map<String, String> left = new TreeMap<>();

    Document(Path file) {
        String[] parts;
        try {
            parts = Files.readString(file).split("(?m)^## ");
        } catch (IOException e) {
            throw new UncheckedIOException(e);
        }
        for (int i = 1; i < parts.length; i++) {
            String[] titleAndText = parts[i].split("\n", 2);
            left.put(titleAndText[0].replaceFirst(":.*", "").strip(), plain(titleAndText[1]));
        }
    }

    /** Without fences and what stands in backticks (the face has a test of its own), on one line. */
    private static String plain(String text) {
        return text.replaceAll("(?m)^```.*$", "").replaceAll("`[^`]*`", "").replaceAll("\\s+", " ");
    }

    /** Strikes these words out where they first stand in a section; false if they do not stand there. */
    boolean strike(String section, String words) {
        String text = left.getOrDefault(section, "");
        int at = text.indexOf(words);
        if (at < 0) {
            return false;
        }
        left.put(section, text.substring(0, at) + STRUCK + text.substring(at + words.length()));
        return true;
    }

    /** What of a section is not struck out; empty if that is signs alone. */
    String rest(String section) {
        String text = left.getOrDefault(section, "no such section").strip();
        return text.chars().anyMatch(Character::isLetterOrDigit) ? text : "";
    }
}
