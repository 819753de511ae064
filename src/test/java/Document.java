import java.io.IOException;
import java.nio.file.Files;
import java.nio.file.Path;
import java.util.LinkedHashMap;
import java.util.Map;
import java.util.Set;

/** DOC.md, part by part ("Terms", "Promise 1" ..), and which of its words the tests have cited. */
final class Document {
    static final Path PLACE = Path.of("../shared/DOC.md");

    private final Map<String, String> parts = new LinkedHashMap<>();
    private final Map<String, boolean[]> cited = new LinkedHashMap<>();

    static Document read() throws IOException {
        Document document = new Document();
        for (String part : Files.readString(PLACE).split("\n## ")) {
            String title = part.split("[:\n]")[0];
            if (title.equals("Terms") || title.startsWith("Promise ")) {
                document.add(title, part.substring(part.indexOf('\n')));
            }
        }
        return document;
    }

    private void add(String title, String lines) {
        String text = lines.replaceAll("```(text)?\n", " ").replaceAll("\\s+", " ").trim();
        // A promise begins with the head of its method: what is said of it comes behind that.
        String said = text.startsWith("`") ? text.substring(text.indexOf("`: ") + 3) : text;
        parts.put(title, said);
        cited.put(title, new boolean[said.length()]);
    }

    Set<String> titles() {
        return parts.keySet();
    }

    /** Whether that part says so, in these words; they count as cited wherever it says them. */
    boolean cite(String title, String sentence) {
        String said = parts.getOrDefault(title, "");
        int place = said.indexOf(sentence);
        boolean found = place >= 0;
        while (place >= 0) {
            java.util.Arrays.fill(cited.get(title), place, place + sentence.length(), true);
            place = said.indexOf(sentence, place + 1);
        }
        return found;
    }

    /** The words of a part that no test has cited. */
    String uncited(String title) {
        StringBuilder rest = new StringBuilder();
        String said = parts.get(title);
        for (int i = 0; i < said.length(); i++) {
            rest.append(cited.get(title)[i] ? ' ' : said.charAt(i));
        }
        String words = rest.toString().replaceAll("\\s+", " ").trim();
        return words.matches("[^A-Za-z0-9]*") ? "" : words;
    }
}
