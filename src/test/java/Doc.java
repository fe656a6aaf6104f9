import java.io.IOException;
import java.nio.file.Files;
import java.nio.file.Path;
import java.util.LinkedHashMap;
import java.util.List;
import java.util.Map;

/**
 * The document, by its headings ("What it is": how long an object is used; "Terms"; "==== 1" to
 * "==== 7"; "Promise 1" to "Promise 39").
 * A test of an edge quotes the sentence that it is about: the quote must stand under that heading,
 * and at the end no sentence may be left that no test quotes.
 */
final class Doc {
    private static final Map<String, String> TEXTS = read();
    private static final Map<String, boolean[]> QUOTED = new LinkedHashMap<>();
    private static int quotes = 0;

    private Doc() {
    }

    private static Map<String, String> read() {
        Map<String, String> texts = new LinkedHashMap<>();
        Path path = Path.of(System.getProperty("shared", "../shared"), "DOC.md");
        if (!Files.isReadable(path)) {
            System.out.println("no document at " + path + ": the quotes are not compared with it");
            return texts;
        }
        try {
            collect(Files.readAllLines(path), texts);
        } catch (IOException unread) {
            throw new IllegalStateException("the document at " + path + " can't be read", unread);
        }
        return texts;
    }

    private static void collect(List<String> lines, Map<String, String> texts) {
        String heading = "";
        for (String line : lines) {
            if (line.startsWith("## ")) {
                heading = line.equals("## Terms") ? "Terms" : line.startsWith("## Promise ") ? line.substring(3, line.indexOf(':')) : "";
                continue;
            }
            if (line.startsWith("An object is used for ")) {
                texts.put("What it is", line.substring(0, line.indexOf(';')));
            }
            if (line.startsWith("==== ")) {
                heading = line.substring(0, 6);
            }
            if (line.startsWith("Ahead of the calls")) {
                heading = "";
            }
            if (!heading.isEmpty() && !line.startsWith("```")) {
                // The heading's own words and the call's head are no sentences.
                String plain = line.replaceAll("^==== \\d ", "").replaceAll("^`[^`]*`: ", "").trim();
                texts.merge(heading, plain, (before, more) -> (before + " " + more).trim());
            }
        }
    }

    static void quote(String heading, String sentence) {
        quotes++;
        if (TEXTS.isEmpty()) {
            return;
        }
        String text = TEXTS.getOrDefault(heading, "");
        int at = text.indexOf(sentence);
        Tally.due("the document says under " + heading + ": " + sentence, at >= 0 ? 1 : 0, 1);
        boolean[] marks = QUOTED.computeIfAbsent(heading, key -> new boolean[text.length()]);
        for (int i = at; at >= 0 && i < at + sentence.length(); i++) {
            marks[i] = true;
        }
    }

    /** What no test has quoted: each letter or digit of the promises and terms belongs to a quote. */
    static void end() {
        for (Map.Entry<String, String> each : TEXTS.entrySet()) {
            String text = each.getValue();
            boolean[] marks = QUOTED.getOrDefault(each.getKey(), new boolean[text.length()]);
            StringBuilder left = new StringBuilder();
            for (int i = 0; i < text.length(); i++) {
                if (!marks[i]) {
                    left.append(text.charAt(i));
                } else if (left.length() > 0 && left.charAt(left.length() - 1) != '|') {
                    left.append('|');
                }
            }
            boolean bare = left.chars().noneMatch(Character::isLetterOrDigit);
            Tally.due("no sentence of " + each.getKey() + " is without a test: " + left, bare ? 1 : 0, 1);
        }
        System.out.println(quotes + " sentences of the document have a test of their own");
    }
}
