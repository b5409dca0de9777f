import java.nio.charset.StandardCharsets;
import java.nio.file.Files;
import java.nio.file.Path;
import java.util.ArrayList;
import java.util.LinkedHashMap;
import java.util.List;
import java.util.Map;
import java.util.concurrent.Callable;

/**
 * The sentences of ../shared/DOC.md, and which of them a test has quoted: a test quotes a sentence,
 * word for word, and then makes the checks that fail if it is broken. A sentence of a section that
 * nobody quoted, a quotation that the document does not have, and one without a check are faults.
 */
final class Sentences {
    private final Checks checks = new Checks();
    private final Map<String, List<String>> waiting = new LinkedHashMap<>();
    private String section = "";
    private String quoted = "";
    private int checksOfQuoted = 1;

    /** Takes the sections of the document from one heading up to the one before another. */
    Sentences(String from, String before) {
        boolean isTaken = false;
        String block = "";
        for (String line : lines()) {
            if (line.startsWith("## ")) {
                isTaken = line.startsWith("## " + from) || isTaken && !line.startsWith("## " + before);
                section = line.substring(3);
            } else if (line.startsWith("```")) {
                block = block.isEmpty() ? line.substring(3) : "";
            } else if (isTaken && !line.isBlank() && !block.equals("java")) {
                waiting.computeIfAbsent(section, s -> new ArrayList<>()).addAll(sentences(line, block));
            }
        }
        section = "";
    }

    private static List<String> lines() {
        Path document = Path.of(System.getProperty("knots.shared", "../shared"), "DOC.md");
        try {
            return Files.readAllLines(document, StandardCharsets.UTF_8);
        } catch (java.io.IOException e) {
            throw new IllegalStateException("cannot read " + document);
        }
    }

    private static List<String> sentences(String line, String block) {
        String text = line.strip().replaceAll("\\s+", " ");
        if (block.equals("text")) {
            return List.of(text);
        }
        text = text.replaceFirst("^`[^`]*\\([^`]*`: ", "").replaceFirst("^\\d\\. [A-Z][a-z ]+\\. ", "").replaceFirst("^- ", "");
        return List.of(text.replace("`", "").split("(?<=\\.) (?=[A-Z])"));
    }

    void section(String heading) {
        endGroup();
        section = heading;
        if (!waiting.containsKey(heading)) {
            checks.due("section " + heading, "not in the document", "in the document");
        }
    }

    /** Quotes sentences of the section; the checks that follow are theirs. */
    void says(String... sentences) {
        endGroup();
        quoted = sentences[0];
        checksOfQuoted = 0;
        for (String sentence : sentences) {
            boolean found = waiting.getOrDefault(section, new ArrayList<>()).remove(sentence);
            checks.due(section + ": quotation \"" + sentence + "\"", found, true);
        }
    }

    private void endGroup() {
        checks.due(section + ": \"" + quoted + "\" has a check", checksOfQuoted > 0, true);
    }

    /** What a call answers, or the class of what it throws. */
    void due(Object want, Callable<?> call) {
        checksOfQuoted++;
        checks.due(section + ": \"" + quoted + "\": check " + checksOfQuoted, Checks.answer(call), want);
    }

    void close(String name) {
        endGroup();
        waiting.forEach((heading, sentences) -> checks.due(heading + ": sentences without a test", sentences.toString(), "[]"));
        checks.close(name);
    }
}
