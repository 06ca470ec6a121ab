import java.io.IOException;
import java.nio.charset.StandardCharsets;
import java.nio.file.Files;
import java.nio.file.Path;
import java.util.ArrayList;
import java.util.Arrays;
import java.util.LinkedHashMap;
import java.util.List;
import java.util.Map;

/** ../shared/DOC.md by promises and terms, and which of its words have been quoted. */
final class Document {
    private static final Path PLACE = Path.of("../shared/DOC.md");
    /** How the line of a term begins, by the term's name. */
    private static final String[][] TERMS = {
        {"What it is", "An object is used"}, {"THE DOUGH", "======== 1 THE DOUGH"}, {"DRAWN", "DRAWN by x"},
        {"KINDS", "KINDS:"}, {"A TEXT", "A TEXT is read"}, {"FAULT", "FAULT:"}, {"TEXTS", "TEXTS are numbered"},
        {"MORE EVEN", "======== 2 MORE EVEN"}, {"COOKED", "COOKED for"}, {"A MAP", "A MAP of"},
        {"DRAWN BY LOT", "DRAWN BY LOT, by"}, {"AN IMAGE", "AN IMAGE keeps"}, {"SHEETS", "SHEETS 0 .. 3"},
    };

    private final Map<String, String> texts = new LinkedHashMap<>();
    private final Map<String, boolean[]> quoted = new LinkedHashMap<>();

    /** Whether the document is there to be quoted. */
    static boolean isThere() {
        return Files.isReadable(PLACE);
    }

    Document() throws IOException {
        List<String> lines = Files.readAllLines(PLACE, StandardCharsets.UTF_8);
        for (String[] term : TERMS) {
            for (String line : lines) {
                if (line.strip().startsWith(term[1])) {
                    put(term[0], line);
                }
            }
        }
        for (int i = 0; i < lines.size(); i++) {
            String line = lines.get(i);
            if (line.startsWith("## Promise ")) {
                put(line.substring(3, line.indexOf(':')), promised(lines, i + 1));
            }
        }
        if (texts.size() != TERMS.length + 44) {
            throw new IllegalStateException("terms and promises: " + texts.keySet());
        }
    }

    /** What stands below a promise's heading, behind the call's face. */
    private static String promised(List<String> lines, int from) {
        StringBuilder all = new StringBuilder();
        for (int i = from; i < lines.size() && !lines.get(i).startsWith("## "); i++) {
            all.append(lines.get(i)).append(' ');
        }
        return all.substring(all.lastIndexOf("`:") + 2);
    }

    private void put(String name, String text) {
        texts.put(name, text.strip().replaceAll("\\s+", " "));
        quoted.put(name, new boolean[texts.get(name).length()]);
    }

    /** Whether these words stand there; they are quoted then. */
    boolean quote(String name, String says) {
        String text = texts.get(name);
        if (text == null || says.isBlank()) {
            return false;
        }
        boolean stands = false;
        for (int at = text.indexOf(says); at >= 0; at = text.indexOf(says, at + 1)) {
            Arrays.fill(quoted.get(name), at, at + says.length(), true);
            stands = true;
        }
        return stands;
    }

    /** What nobody has quoted, but for what stands between. */
    List<String> left() {
        List<String> all = new ArrayList<>();
        texts.forEach((name, text) -> {
            StringBuilder piece = new StringBuilder();
            for (int i = 0; i <= text.length(); i++) {
                if (i < text.length() && !quoted.get(name)[i]) {
                    piece.append(text.charAt(i));
                } else {
                    if (piece.chars().anyMatch(Character::isLetterOrDigit)) {
                        all.add(name + ": " + piece);
                    }
                    piece.setLength(0);
                }
            }
        });
        return all;
    }
}
