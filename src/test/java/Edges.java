import java.util.ArrayList;
import java.util.List;
import java.util.Map;

/**
 * Tests that stand beside the sentences of the document: each one quotes the sentence that it looks at, the
 * quoted words must stand there, and in the end each sentence must have been quoted.
 */
final class Edges {
    private static final Map<String, List<String>> SENTENCES = Document.sentences();
    private static final Map<String, List<String>> LEFT = Document.sentences();
    private static String section = "";

    private Edges() {
    }

    static void in(String newSection) {
        section = newSection;
    }

    static void edge(String words, Runnable looks) {
        Check.at(section + ", \"" + words + "\": ");
        List<String> said = SENTENCES.getOrDefault(section, List.of());
        Check.due("it stands in the document", true, said.stream().anyMatch(sentence -> sentence.contains(words)));
        LEFT.getOrDefault(section, new ArrayList<>()).removeIf(sentence -> sentence.contains(words));
        int before = Check.countLooked();
        try {
            looks.run();
        } catch (RuntimeException e) {
            Check.due("a call of the test", "an answer", "throws " + e);
        }
        Check.due("something is looked at", true, Check.countLooked() > before);
        Check.at("");
    }

    static void demandAllSentences() {
        Check.due("sections of the document", 44, SENTENCES.size());
        LEFT.forEach((title, sentences) -> {
            for (String sentence : sentences) {
                Check.due(title + ", \"" + sentence + "\"", "tested", "not tested");
            }
        });
    }
}
