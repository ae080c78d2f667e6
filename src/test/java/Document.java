import java.io.IOException;
import java.nio.file.Files;
import java.nio.file.Path;
import java.util.ArrayList;
import java.util.List;

/** The sentences of ../shared/DOC.md: of its promises by their numbers, of its "Terms", and of "What it is". */
final class Document {
    static final int WHAT_IT_IS = -1;
    static final int TERMS = 0;
    static final int PROMISES = 42;

    private final String text;

    Document() throws IOException {
        text = Files.readString(Path.of("../shared/DOC.md"));
    }

    /** One after the other; the stop of ".." ends none. */
    List<String> sentences(int promise) {
        List<String> found = new ArrayList<>();
        for (String sentence : words(promise).split("(?<![.])[.](?=\\s|$)")) {
            if (!sentence.isBlank()) found.add(sentence.trim());
        }
        return found;
    }

    boolean says(int promise, String words) {
        return words(promise).contains(words);
    }

    /** How a section is called, in the document and in what the tests say. */
    static String name(int promise) {
        if (promise == WHAT_IT_IS) return "What it is";
        return promise == TERMS ? "Terms" : "Promise " + promise;
    }

    private String words(int promise) {
        int begin = text.indexOf("\n", text.indexOf("## " + name(promise) + (promise > TERMS ? ":" : "\n")));
        int end = text.indexOf("\n## ", begin);
        String section = text.substring(begin, end);
        if (promise > TERMS) section = section.substring(section.indexOf("`: ") + 3);
        return section.replaceAll("(?m)^(```.*|[0-9]\\. |Ahead of the calls .*)", "").replaceAll("\\s+", " ");
    }
}
