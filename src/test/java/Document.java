import java.io.IOException;
import java.io.UncheckedIOException;
import java.nio.file.Files;
import java.nio.file.Path;
import java.util.ArrayList;
import java.util.LinkedHashMap;
import java.util.List;
import java.util.Map;

/** The sentences of the document, section by section, as its tests quote them. */
final class Document {
    private static final Path PATH = Path.of("../shared/DOC.md");

    private Document() {
    }

    static Map<String, List<String>> sentences() {
        Map<String, List<String>> found = new LinkedHashMap<>();
        for (String part : text().split("\n## ")) {
            String title = part.lines().findFirst().orElse("");
            String body = part.substring(title.length()).trim();
            if (title.startsWith("What it is")) {
                // Behind the semicolon stands what is not promised.
                found.put("What it is", sentencesOf(body.substring(body.indexOf("An object"), body.lastIndexOf(';') + 1)));
            } else if (title.startsWith("Terms")) {
                found.put("Terms", sentencesOf(body.substring(0, body.indexOf("Examples:"))));
            } else if (title.startsWith("Promise ")) {
                found.put(title.substring(0, title.indexOf(':')), linesOf(body));
            }
        }
        return found;
    }

    private static String text() {
        try {
            return Files.readString(PATH);
        } catch (IOException e) {
            throw new UncheckedIOException(e);
        }
    }

    /** Parts between semicolons count alone; the one or two words that name a paragraph do not. */
    private static List<String> sentencesOf(String body) {
        List<String> found = new ArrayList<>();
        for (String sentence : body.split("(?<=[.;])\\s+")) {
            if (sentence.split("\\s+").length > 2) {
                found.add(sentence.replaceAll("\\s+", " "));
            }
        }
        return found;
    }

    /** A promise has its sentences in lines, the first one behind the call. */
    private static List<String> linesOf(String body) {
        List<String> found = new ArrayList<>();
        for (String line : body.split("\n")) {
            String said = line.startsWith("`") ? line.substring(line.indexOf("`: ") + 3) : line;
            if (!said.isBlank()) {
                found.add(said.trim());
            }
        }
        return found;
    }
}
