import java.io.IOException;
import java.nio.charset.StandardCharsets;
import java.nio.file.Files;
import java.nio.file.Path;
import java.util.ArrayList;
import java.util.List;
import java.util.Map;
import java.util.Set;
import java.util.TreeMap;
import java.util.regex.Pattern;

/** The document's sentences, so that a test can be held against the sentence that it is for. */
final class Document {
    private static final Path FILE = Path.of("..", "shared", "DOC.md");

    // What a sentence of "Terms" begins with that tells no rule: the heads of its paragraphs, and what the class is.
    private static final List<String> NO_RULES = List.of("The class moves trams along lines", "Stops and lines.",
        "Trams.", "Passengers and tickets.", "Boarding.", "Secrets.", "Paths.", "Text.", "Undo.", "Exceptions.",
        "Ahead of the calls", "Lines of text, statistics and checks.", "Text, undo and snapshots.");

    // What a sentence of a promise has in it that names a boundary case.
    private static final Pattern BOUNDARY = Pattern.compile("^Throws |\\d|empty|kept|replaces|included|tie|same|equal"
        + "|false|all of them|nothing|no line yet");

    private final Map<String, String> sections = new TreeMap<>();

    private Document() {
    }

    static boolean isThere() {
        return Files.isRegularFile(FILE);
    }

    static Document read() throws IOException {
        Document document = new Document();
        String text = Files.readString(FILE, StandardCharsets.UTF_8);
        for (String section : text.split("\n## ")) {
            int end = section.indexOf('\n');
            document.sections.put(placeOf(section.substring(0, end)), section.substring(end));
        }
        return document;
    }

    /** "P12" for a promise; the first section, with the head of the document, is "The head". */
    private static String placeOf(String head) {
        if (head.startsWith("Promise ")) {
            return "P" + head.substring("Promise ".length(), head.indexOf(':'));
        }
        return head.equals("What it is") ? "The head" : head;
    }

    private static String joined(String text) {
        return text.trim().replaceAll("\\s+", " ");
    }

    private boolean says(String place, String words) {
        return joined(sections.getOrDefault(place, "")).contains(words);
    }

    private static List<String> sentencesOf(String text) {
        return List.of(joined(text).split("(?<=[.:]) (?=[A-Z])"));
    }

    /** The rules of "Terms", and of each promise the exceptions and the sentences that name a boundary. */
    private Map<String, List<String>> due() {
        Map<String, List<String>> due = new TreeMap<>();
        for (Map.Entry<String, String> section : sections.entrySet()) {
            List<String> sentences = new ArrayList<>();
            if (section.getKey().equals("Terms")) {
                sentences.addAll(sentencesOf(section.getValue()));
                sentences.removeIf(sentence -> NO_RULES.stream().anyMatch(sentence::startsWith));
            } else if (section.getKey().startsWith("P")) {
                for (String paragraph : section.getValue().split("\n\n|\n(?=- )")) {
                    sentences.addAll(sentencesOf(withoutMarks(paragraph)));
                }
                sentences.removeIf(sentence -> !BOUNDARY.matcher(sentence).find());
            }
            due.put(section.getKey(), sentences);
        }
        return due;
    }

    /** Without the mark of a list, and without the face of the method in front of the first sentence. */
    private static String withoutMarks(String paragraph) {
        return joined(paragraph).replaceFirst("^- ", "").replaceFirst("^`[^`]*\\([^`]*`: ", "");
    }

    /** What is wrong with the sentences that were tested: words that the document does not have, or has besides. */
    List<String> complaintsOf(Map<String, Set<String>> tested) {
        List<String> complaints = new ArrayList<>();
        for (Map.Entry<String, Set<String>> place : tested.entrySet()) {
            for (String words : place.getValue()) {
                if (!says(place.getKey(), words)) {
                    complaints.add("The document does not say in " + place.getKey() + ": " + words);
                }
            }
        }
        for (Map.Entry<String, List<String>> place : due().entrySet()) {
            Set<String> seen = tested.getOrDefault(place.getKey(), Set.of());
            for (String sentence : place.getValue()) {
                if (!seen.contains(sentence)) {
                    complaints.add("No test is for this sentence in " + place.getKey() + ": " + sentence);
                }
            }
        }
        for (int promise = 1; promise <= 58; promise++) {
            if (!tested.containsKey("P" + promise)) {
                complaints.add("No test is for promise " + promise);
            }
        }
        return complaints;
    }
}
