import java.io.IOException;
import java.nio.charset.StandardCharsets;
import java.nio.file.Files;
import java.nio.file.Path;
import java.util.ArrayList;
import java.util.Arrays;
import java.util.LinkedHashMap;
import java.util.List;
import java.util.Map;

/**
 * The document by its sections, so that the words that a test bears as its name are the document's, and no
 * words of the terms and promises are left without a test.
 */
final class Document {
    private static final Path PLACE = Path.of("..", "shared", "DOC.md");
    private static final Map<String, List<String>> SECTIONS = read();
    private static final Map<String, List<String>> QUOTED = new LinkedHashMap<>();

    private Document() {
    }

    /** Notes that a test bears these words of a section; says so if they do not stand there. */
    static void quote(String section, String words) {
        QUOTED.computeIfAbsent(section, key -> new ArrayList<>()).add(words);
        if (isThere()) {
            Checks.due("the words stand in the document's section", textOf(section).contains(words) ? 1 : 0, 1);
        }
    }

    /** Says which words of the terms and promises no test bears; those that only join others need none. */
    static void dueWhole() {
        for (String section : SECTIONS.keySet()) {
            if (bearsTests(section)) {
                for (String words : wordsWithoutTests(section)) {
                    Checks.dueText(section + ": \"" + words + "\"", "no test", "a test");
                }
            }
        }
    }

    private static List<String> wordsWithoutTests(String section) {
        String text = textOf(section);
        char[] left = text.toCharArray();
        for (String words : QUOTED.getOrDefault(section, List.of())) {
            for (int at = text.indexOf(words); at >= 0; at = text.indexOf(words, at + 1)) {
                Arrays.fill(left, at, at + words.length(), '\n');
            }
        }
        List<String> without = new ArrayList<>();
        for (String words : new String(left).split("\n+")) {
            if (!words.matches("[ ,;.:]*(and)?[ ,;.:]*")) {
                without.add(words);
            }
        }
        return without;
    }

    static boolean isThere() {
        return !SECTIONS.isEmpty();
    }

    /** All that stands in a section, without the signs of its items; nothing if there is no such section. */
    static String textOf(String section) {
        return String.join(" ", linesOf(section));
    }

    static List<String> linesOf(String section) {
        return SECTIONS.getOrDefault(section, List.of());
    }

    /** The name of the section that promises a method. */
    static String sectionOf(String method) {
        for (String section : SECTIONS.keySet()) {
            if (section.matches("Promise [0-9]+: " + method)) {
                return section;
            }
        }
        return "";
    }

    private static Map<String, List<String>> read() {
        Map<String, List<String>> sections = new LinkedHashMap<>();
        if (!Files.exists(PLACE)) {
            System.out.println("no " + PLACE + " here: the sentences are not looked up");
            return sections;
        }
        String section = "";
        for (String line : lines()) {
            if (line.startsWith("#")) {
                section = line.replaceFirst("^#+ ", "");
            } else if (line.matches("[A-Z ]+")) {
                section = line;
            } else if (!line.isBlank()) {
                sections.computeIfAbsent(section, key -> new ArrayList<>()).add(withoutSigns(line));
            }
        }
        return sections;
    }

    private static boolean bearsTests(String section) {
        return section.equals("What it is") || section.startsWith("Promise ") || section.matches("[A-Z ]+");
    }

    // The sign of an item, and the head of a method before its first words, belong to no sentence.
    private static String withoutSigns(String line) {
        return line.replaceFirst("^`[^`]*\\)`: ", "").replaceFirst("^(- |[0-9]\\. )", "");
    }

    private static List<String> lines() {
        try {
            return Files.readAllLines(PLACE, StandardCharsets.UTF_8);
        } catch (IOException e) {
            throw new IllegalStateException("the document cannot be read", e);
        }
    }
}
