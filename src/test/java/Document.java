import java.io.IOException;
import java.nio.file.Files;
import java.nio.file.Path;
import java.util.LinkedHashMap;
import java.util.List;
import java.util.Map;

/** The text of ../shared/DOC.md by its headings, and which of its words a test has quoted; nothing, if it is not there. */
final class Document {
    /** What the class is, and how its face is ordered. */
    private static final String NO_BOUNDARIES = "Columns of values .* its place\\.|Ahead of the calls .* the file\\.";

    private final Map<String, StringBuilder> parts = new LinkedHashMap<>();
    private final StringBuilder strange = new StringBuilder();

    Document(Path path) throws IOException {
        StringBuilder part = new StringBuilder();
        for (String line : Files.exists(path) ? Files.readAllLines(path) : List.of("")) {
            if (line.startsWith("## ")) {
                part = new StringBuilder();
                parts.put(line.substring(3).replaceAll(":.*", ""), part);
            } else if (!line.startsWith("#") && !line.startsWith("```")) {
                part.append(line.trim()).append(' ');
            }
        }
    }

    /** A quoted word is overwritten by signs '~': what is left was not quoted. */
    void quote(String partName, String words) {
        String heading = partName.startsWith("Promise") ? partName : partName.startsWith("Terms") ? "Terms" : partName;
        if (parts.isEmpty()) {
            return;
        }
        StringBuilder part = parts.get(heading);
        int at = part == null ? -1 : part.indexOf(words);
        if (part != null && at >= 0) {
            part.replace(at, at + words.length(), "~".repeat(words.length()));
        } else if (part == null || part.indexOf("~".repeat(words.length())) < 0) {
            strange.append(partName).append(" does not say: ").append(words).append('\n');
        }
    }

    /** What was quoted, but is not there, and what was not quoted of the parts that name boundaries. */
    String told() {
        StringBuilder text = new StringBuilder(strange);
        for (Map.Entry<String, StringBuilder> part : parts.entrySet()) {
            String heading = part.getKey();
            if (heading.startsWith("Promise") || heading.equals("Terms") || heading.equals("What it is")) {
                for (String left : part.getValue().toString().split("~+")) {
                    if (left.matches(".*[A-Za-z0-9].*") && !left.trim().matches(NO_BOUNDARIES)) {
                        text.append(heading).append(" also says: ").append(left.trim()).append('\n');
                    }
                }
            }
        }
        return text.toString();
    }
}
