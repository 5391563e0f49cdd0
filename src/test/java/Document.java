import java.io.IOException;
import java.nio.file.Files;
import java.nio.file.Path;
import java.util.ArrayList;
import java.util.LinkedHashMap;
import java.util.List;
import java.util.Map;

/** The document's sentences, by the headings that they stand under. */
final class Document {
    private final Map<String, List<String>> places = new LinkedHashMap<>();

    static Document read(Path path) throws IOException {
        Document document = new Document();
        String place = "";
        for (String line : Files.readAllLines(path)) {
            if (line.startsWith("#") || line.equals("Links, joints")) {
                place = line.replaceFirst("^#+ ", "").replaceFirst("^(Promise [0-9]+):.*", "$1");
            } else if (!line.isBlank()) {
                document.add(place, line);
            }
        }
        return document;
    }

    private void add(String place, String line) {
        String words = line.replaceFirst("^`[^`]*\\([^`]*\\)[^`]*`: ", "");
        List<String> sentences = places.computeIfAbsent(place, key -> new ArrayList<>());
        for (String sentence : words.split("(?<=\\.) ")) {
            sentences.add(sentence);
        }
    }

    boolean says(String place, String words) {
        return String.join(" ", sentences(place)).contains(words);
    }

    List<String> sentences(String place) {
        return places.getOrDefault(place, List.of());
    }

    List<String> places() {
        return new ArrayList<>(places.keySet());
    }
}
