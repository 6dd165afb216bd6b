import java.io.IOException;
import java.nio.charset.StandardCharsets;
import java.nio.file.Files;
import java.nio.file.Path;
import java.util.ArrayList;
import java.util.LinkedHashMap;
import java.util.List;
import java.util.Map;

/**
 * The document by its sections, so that each sentence that a test bears as its name is one of the
 * document's, and no sentence of the terms and promises is left without a test.
 */
final class Document {
    private static final Path PLACE = Path.of("..", "shared", "DOC.md");
    private static final Map<String, List<String>> SENTENCES = read();
    private static final Map<String, List<String>> QUOTED = new LinkedHashMap<>();

    private Document() {
    }

    /** Notes that a test bears these words of a section; says so if they do not stand there. */
    static void quote(String section, String words) {
        QUOTED.computeIfAbsent(section, key -> new ArrayList<>()).add(words);
        if (!SENTENCES.isEmpty()) {
            String text = String.join(" ", SENTENCES.getOrDefault(section, List.of()));
            Checks.due("the words stand in the document's section", text.contains(words) ? 1 : 0, 1);
        }
    }

    /** Says which sentences of the terms and promises no test bears, but for those that begin so. */
    static void dueWhole(String[] withoutBounds) {
        for (String section : SENTENCES.keySet()) {
            for (String sentence : SENTENCES.get(section)) {
                boolean found = isQuoted(section, sentence) || beginsWithOneOf(withoutBounds, sentence);
                Checks.due(section + ": \"" + sentence + "\" has a test", found ? 1 : 0, 1);
            }
        }
    }

    private static boolean beginsWithOneOf(String[] beginnings, String sentence) {
        for (String beginning : beginnings) {
            if (sentence.startsWith(beginning)) {
                return true;
            }
        }
        return false;
    }

    private static boolean isQuoted(String section, String sentence) {
        for (String words : QUOTED.getOrDefault(section, List.of())) {
            if (words.contains(sentence) || sentence.contains(words)) {
                return true;
            }
        }
        return false;
    }

    private static Map<String, List<String>> read() {
        Map<String, List<String>> sections = new LinkedHashMap<>();
        if (!Files.exists(PLACE)) {
            System.out.println("no " + PLACE + " here: the sentences are not looked up");
            return sections;
        }
        String section = "";
        for (String line : lines()) {
            if (line.startsWith("#")) {
                section = line.replaceFirst("^#+ ", "");
            } else if (line.matches("[A-Z ]+")) {
                section = line;
            } else if (bearsTests(section) && !line.isBlank()) {
                addSentences(sections.computeIfAbsent(section, key -> new ArrayList<>()), line);
            }
        }
        return sections;
    }

    private static boolean bearsTests(String section) {
        return section.equals("What it is") || section.startsWith("Promise ") || section.matches("[A-Z ]+");
    }

    // The sign of an item, and the head of a method before its first words, belong to no sentence.
    private static void addSentences(List<String> sentences, String line) {
        String words = line.replaceFirst("^`[^`]*\\)`: ", "").replaceFirst("^(- |[0-9]\\. )", "");
        for (String sentence : words.split("(?<=[.;]) ")) {
            sentences.add(sentence);
        }
    }

    private static List<String> lines() {
        try {
            return Files.readAllLines(PLACE, StandardCharsets.UTF_8);
        } catch (IOException e) {
            throw new IllegalStateException("the document cannot be read", e);
        }
    }
}
