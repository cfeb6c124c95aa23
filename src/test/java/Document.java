import java.io.IOException;
import java.nio.file.Files;
import java.nio.file.Path;
import java.util.ArrayList;
import java.util.BitSet;
import java.util.List;

/** The document's Terms and promises, and which of their sentences some test has quoted. */
final class Document {
    private static final Path PLACE = Path.of("../shared/DOC.md");

    private final String text;
    private final BitSet quoted = new BitSet();

    private Document(String text) {
        this.text = text;
    }

    /** Null if there is no document to look into. */
    static Document read() {
        if (!Files.isRegularFile(PLACE)) {
            return null;
        }
        try {
            return new Document(Files.readString(PLACE).replaceAll("```(text)?|==== \\d+[.]", " ").replaceAll("\\s+", " "));
        } catch (IOException e) {
            return null;
        }
    }

    private int begin(String place) {
        String heading = "## " + place + (place.startsWith("Promise") ? ":" : " ");
        return Math.max(0, text.indexOf(heading));
    }

    private int behind(String place) {
        int next = text.indexOf(" ## ", begin(place));
        return next < 0 ? text.length() : next;
    }

    /** Whether these words stand at that place; they count as quoted then. */
    boolean says(String place, String words) {
        int at = text.indexOf(words, begin(place));
        if (at < 0 || at + words.length() > behind(place)) {
            return false;
        }
        quoted.set(at, at + words.length());
        return true;
    }

    /** The parts of a place's sentences of which no word was quoted; a 'none' behind a part is none itself. */
    List<String> unquoted(String place) {
        List<String> found = new ArrayList<>();
        int end = behind(place);
        int from = text.indexOf(place.equals("Terms") ? "KINDS" : "`: ", begin(place));
        for (int at = from; at < end; at++) {
            boolean stop = ".;:)".indexOf(text.charAt(at)) >= 0 || at + 1 == end;
            if (stop) {
                int next = quoted.nextSetBit(from);
                String part = text.substring(from, at + 1).trim();
                if ((next < 0 || next > at) && part.length() > "none.".length()) {
                    found.add(part);
                }
                from = at + 1;
            }
        }
        return found;
    }
}
