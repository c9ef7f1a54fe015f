import java.io.IOException;
import java.nio.file.Files;
import java.nio.file.Path;
import java.util.Arrays;
import java.util.LinkedHashMap;
import java.util.Map;

/**
 * What tests say of the document's sentences. Each test names the place and the
 * sentence it looks at ("Promise 5: BAD: n is not 1 .. 8;"); here they are held
 * against the document itself: a sentence that does not stand there is wrong,
 * and so is one of the document that no test names, or one that is named with
 * no answer looked at.
 */
final class Sentences {
    private static final Path DOCUMENT = Path.of("../shared/DOC.md");

    private final Checks checks = new Checks();
    private final Map<String, String> texts = new LinkedHashMap<>();
    private final Map<String, boolean[]> named = new LinkedHashMap<>();
    private String sentence = "";
    private int sentences = 0;
    private int answers = 0;

    Sentences() throws IOException {
        if (!Files.isReadable(DOCUMENT)) {
            System.out.println(DOCUMENT + " can not be read: sentences are not held against it");
            return;
        }
        for (String section : Files.readString(DOCUMENT).split("(?m)^## ")) {
            int end = section.indexOf('\n');
            String heading = end < 0 ? "" : section.substring(0, end);
            String text = end < 0 ? "" : plain(section.substring(end));
            if (heading.startsWith("Promise ")) {
                keep(heading.substring(0, heading.indexOf(':')), text.substring(text.indexOf("`: ") + 3));
            } else if (heading.equals("Terms")) {
                String[] terms = text.split(" ======== \\d ");
                for (int i = 0; i < terms.length; i++) {
                    keep("Terms " + (i + 1), terms[i]);
                }
            } else if (heading.equals("What it is")) {
                keep(heading, text);
                // It says in short what the promises say: not all of it needs a test.
                Arrays.fill(named.get(heading), true);
            }
        }
        checks.due("promises in the document", texts.keySet().stream().filter(k -> k.startsWith("P")).count(), 24);
        checks.due("terms in the document", texts.keySet().stream().filter(k -> k.startsWith("T")).count(), 4);
    }

    private static String plain(String text) {
        return text.replaceAll("```\\w*", " ").replaceAll("\\s+", " ").trim();
    }

    private void keep(String place, String text) {
        texts.put(place, text);
        named.put(place, new boolean[text.length()]);
    }

    /** Begins the test of a sentence; what is due from here on is due because of it. */
    void says(String placeAndSentence) {
        checkAnswers();
        sentence = placeAndSentence;
        sentences++;
        answers = 0;
        int colon = placeAndSentence.indexOf(": ");
        String place = placeAndSentence.substring(0, colon);
        String words = placeAndSentence.substring(colon + 2);
        if (texts.isEmpty()) {
            return;
        }
        checks.holds("a place of the document: " + place, texts.containsKey(place));
        String text = texts.getOrDefault(place, "");
        int from = text.indexOf(words);
        checks.holds("stands in the document: " + placeAndSentence, from >= 0);
        for (; from >= 0; from = text.indexOf(words, from + 1)) {
            Arrays.fill(named.get(place), from, from + words.length(), true);
        }
    }

    private void checkAnswers() {
        checks.holds("[" + sentence + "] has answers to look at", sentences == 0 || answers > 0);
    }

    void due(String call, long got, long want) {
        answers++;
        checks.due("[" + sentence + "] " + call, got, want);
    }

    void end() {
        checkAnswers();
        for (String place : texts.keySet()) {
            String left = notNamed(place);
            checks.holds("no test names, of " + place + ": " + left, left.isEmpty());
        }
        System.out.println(sentences + " sentences named");
        checks.end();
    }

    private String notNamed(String place) {
        StringBuilder left = new StringBuilder();
        String text = texts.get(place);
        boolean[] seen = named.get(place);
        for (int i = 0; i < text.length(); i++) {
            if (!seen[i] && Character.isLetterOrDigit(text.charAt(i))) {
                left.append(text.charAt(i));
            } else if (left.length() > 0 && left.charAt(left.length() - 1) != ' ') {
                left.append(' ');
            }
        }
        return left.toString().trim();
    }
}
