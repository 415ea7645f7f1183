import java.io.IOException;
import java.nio.file.Files;
import java.nio.file.Path;
import java.util.HashMap;
import java.util.Map;

/** What the document says in each of its places: 'What it is', 'Terms', 'Terms 1', 'Promise 1' and their like. */
final class Document {
    private final Map<String, StringBuilder> texts = new HashMap<>();

    private Document(Iterable<String> lines) {
        String section = "";
        String term = "";
        for (String line : lines) {
            if (line.startsWith("## ")) {
                section = line.substring(3).split(":")[0].trim();
                term = "";
            } else if (line.startsWith("==== ")) {
                term = section + " " + line.substring(5).split("\\.")[0];
            }
            add(section, line);
            if (!term.isEmpty()) {
                add(term, line);
            }
        }
    }

    /** The second argument of a test is the document's path; null if there is no such file. */
    static Document given(String[] args) throws IOException {
        Path path = Path.of(args.length > 1 ? args[1] : "../shared/DOC.md");
        if (!Files.isReadable(path)) {
            System.out.println("there is no document at " + path + ": sentences are not looked up in it");
            return null;
        }
        return new Document(Files.readAllLines(path));
    }

    private void add(String place, String line) {
        texts.computeIfAbsent(place, p -> new StringBuilder()).append(line.trim()).append(' ');
    }

    boolean says(String place, String words) {
        StringBuilder text = texts.get(place);
        return text != null && text.indexOf(words) >= 0;
    }
}
