import java.io.IOException;
import java.nio.file.Files;
import java.nio.file.Path;
import java.util.ArrayList;
import java.util.List;

/** The sentences of ../shared/DOC.md, each with the place where it stands. */
final class Document {
    private static final Path FILE = Path.of("../shared/DOC.md");

    private final List<String> places = new ArrayList<>();
    private final List<String> sentences = new ArrayList<>();
    private final StringBuilder paragraph = new StringBuilder();
    private String heading = "";

    Document() throws IOException {
        boolean isCode = false;
        for (String line : Files.readAllLines(FILE)) {
            if (line.startsWith("```") || isCode) {
                isCode ^= line.startsWith("```");
            } else if (line.startsWith("#")) {
                endParagraph();
                heading = line.replaceFirst("#+ ", "");
            } else {
                // Each parameter is a sentence of its own, without an empty line ahead of it.
                if (line.isEmpty() || line.startsWith("- ")) {
                    endParagraph();
                }
                paragraph.append(paragraph.length() == 0 ? "" : " ").append(line);
            }
        }
        endParagraph();
    }

    private void endParagraph() {
        String text = paragraph.toString();
        paragraph.setLength(0);
        boolean isSignature = text.startsWith("`");
        if (text.isEmpty() || isSignature || heading.equals("Not promised")) {
            return;
        }
        String[] parts = text.startsWith("- ") ? new String[] {text} : text.split("(?<=\\.) (?=[A-Za-z])");
        boolean hasName = heading.equals("Description") && parts.length > 1;
        String place = hasName ? heading + ", " + parts[0].replace(".", "") : heading;
        for (int i = hasName ? 1 : 0; i < parts.length; i++) {
            places.add(place);
            sentences.add(parts[i]);
        }
    }

    int size() {
        return sentences.size();
    }

    String place(int index) {
        return places.get(index);
    }

    String sentence(int index) {
        return sentences.get(index);
    }

    /** The index of the sentence of a place that begins so; -1 if there is none, or more than one. */
    int indexOf(String place, String beginning) {
        int found = -1;
        for (int i = 0; i < size(); i++) {
            if (places.get(i).equals(place) && sentences.get(i).startsWith(beginning)) {
                if (found >= 0) {
                    return -1;
                }
                found = i;
            }
        }
        return found;
    }
}
