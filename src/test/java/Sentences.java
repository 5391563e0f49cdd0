import java.util.ArrayList;
import java.util.List;
import java.util.Map;
import java.util.TreeMap;
import java.util.function.Consumer;

/** Trials that each bear the words of the document that they hold to, and the heading above these. */
final class Sentences {
    private static final List<String> NO_TERMS =
        List.of("HangingChain", "What it is", "The public face", "Not promised");

    private final Check check;
    private final Map<String, List<String>> words = new TreeMap<>();
    private String place = "";

    Sentences(Check check) {
        this.check = check;
    }

    /** The heading above the words that come. */
    void under(String heading) {
        place = heading;
    }

    void hold(String sentence, Consumer<Check> trial) {
        words.computeIfAbsent(place, key -> new ArrayList<>()).add(sentence);
        check.about(place + ", \"" + sentence + "\"");
        try {
            trial.accept(check);
        } catch (RuntimeException thrown) {
            check.tell("broke off by " + thrown);
        }
    }

    /** The words must stand in the document, and each sentence of its terms and promises must have a trial. */
    void compareWith(Document document) {
        check.about("the trials");
        for (String heading : words.keySet()) {
            for (String sentence : words.get(heading)) {
                if (!document.says(heading, sentence)) {
                    check.tell("the document does not say under " + heading + ": " + sentence);
                }
            }
        }
        for (String heading : document.places()) {
            if (!NO_TERMS.contains(heading)) {
                requireTrials(heading, document.sentences(heading));
            }
        }
    }

    private void requireTrials(String heading, List<String> sentences) {
        for (String sentence : sentences) {
            // These just name parts of the face, but for those that say "nothing is changed".
            boolean tried = sentence.matches("Ahead of the calls .*: ---- [a-z]*\\.");
            for (String some : words.getOrDefault(heading, List.of())) {
                tried |= sentence.contains(some) || some.contains(sentence);
            }
            if (!tried) {
                check.tell("no trial under " + heading + " for: " + sentence);
            }
        }
    }
}
