import java.io.IOException;
import java.nio.file.Files;
import java.nio.file.Path;
import java.util.LinkedHashMap;
import java.util.Map;

/**
 * Answers that are due, each under the sentence of the document that asks for it. A sentence that is not in the document,
 * one under which nothing is looked at, or a passage of the document that no sentence holds is wrong, too.
 */
final class Sentences {
    private static final Path DOCUMENT = Path.of("../shared/DOC.md");

    private final String test;
    private final String document;
    private final Map<String, String> passages = new LinkedHashMap<>();
    private final Map<String, boolean[]> held = new LinkedHashMap<>();
    private String passage = "";
    private String label = "";
    private String sentence = "";
    private int answersHere = 1;
    private int answers;
    private int sentences;
    private int wrong;

    Sentences(String test) throws IOException {
        this.test = test;
        document = Files.readString(DOCUMENT);
    }

    /** What follows is asked for by a promise's own words. */
    void promise(int n) {
        String key = "promise " + n;
        if (!passages.containsKey(key)) {
            String from = between("## Promise " + n + ":", "\n## ");
            // The signature is the face's, which the compiler and LanguageTest hold.
            add(key, from.substring(from.indexOf("`: ") + 3));
        }
        begin(key, key);
    }

    /** What follows is asked for by the terms I to IV, and seen by a promise. */
    void terms(String roman, int promise) {
        String key = "terms " + roman;
        if (!passages.containsKey(key)) {
            String following = switch (roman) {
                case "I" -> "\nII. ";
                case "II" -> "\nIII. ";
                case "III" -> "\nIV. ";
                default -> "\nThe constants: ";
            };
            add(key, between("\n" + roman + ". ", following));
        }
        begin(key, "promise " + promise + ", " + key);
    }

    /** What follows is asked for by what is said of a constant. */
    void constant(String name) {
        String key = "constant " + name;
        if (!passages.containsKey(key)) {
            String from = between("`" + name + " = ", "\n");
            add(key, from.substring(from.indexOf("`: ") + 3));
        }
        begin(key, "promise 1, " + key);
    }

    private String between(String first, String last) {
        int from = document.indexOf(first);
        int to = from < 0 ? -1 : document.indexOf(last, from + first.length());
        if (from < 0) {
            throw new IllegalStateException("the document has no " + first);
        }
        return document.substring(from + first.length(), to < 0 ? document.length() : to);
    }

    private void add(String key, String text) {
        String plain = text.replace("```text", " ").replace("```", " ").replaceAll("\\s+", " ").strip();
        passages.put(key, plain);
        held.put(key, new boolean[plain.length()]);
    }

    private void begin(String key, String newLabel) {
        endSentence();
        passage = key;
        label = newLabel;
        sentence = "";
        answersHere = 1;
    }

    /** The sentence (or a part of one) that asks for what follows. */
    void says(String quote) {
        endSentence();
        sentence = quote;
        answersHere = 0;
        sentences++;
        String text = passages.get(passage);
        int at = text.indexOf(quote);
        if (at < 0) {
            tell("the document does not say so");
        }
        while (at >= 0) {
            java.util.Arrays.fill(held.get(passage), at, at + quote.length(), true);
            at = text.indexOf(quote, at + 1);
        }
    }

    private void endSentence() {
        if (answersHere == 0) {
            tell("nothing is looked at");
        }
    }

    private void tell(String what) {
        wrong++;
        System.out.println(test + ", " + label + ", \"" + sentence + "\": " + what);
    }

    void due(String what, long got, long want) {
        answers++;
        answersHere++;
        if (got != want) {
            tell(what + " answered " + got + ", due is " + want);
        }
    }

    void due(String what, boolean got, boolean want) {
        due(what, got ? 1 : 0, want ? 1 : 0);
    }

    /** Ends the program with 1 if something is wrong. */
    void finish() {
        endSentence();
        for (Map.Entry<String, String> entry : passages.entrySet()) {
            String left = notHeld(entry.getValue(), held.get(entry.getKey()));
            if (!left.isEmpty()) {
                wrong++;
                System.out.println(test + ", " + entry.getKey() + ": no test for " + left);
            }
        }
        System.out.println(test + ": " + sentences + " sentences, " + answers + " answers, " + wrong + " wrong");
        if (wrong > 0) {
            System.exit(1);
        }
    }

    private static String notHeld(String text, boolean[] isHeld) {
        StringBuilder left = new StringBuilder();
        for (int i = 0; i < isHeld.length; i++) {
            if (!isHeld[i] && Character.isLetterOrDigit(text.charAt(i))) {
                left.append(text.charAt(i));
            } else if (left.length() > 0 && left.charAt(left.length() - 1) != ' ') {
                left.append(' ');
            }
        }
        return left.toString().strip();
    }
}
