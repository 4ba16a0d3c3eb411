import java.io.IOException;
import java.nio.file.Files;
import java.nio.file.Path;
import java.util.ArrayList;
import java.util.List;
import java.util.Map;
import java.util.TreeMap;
import java.util.regex.Matcher;
import java.util.regex.Pattern;

/** The sentences of the document: those that a test quotes, and those that none does. */
final class Document {
    static final int TERMS = 0;
    static final Path PLACE = Path.of("..", "shared", "DOC.md");
    private static final Pattern SECTION = Pattern.compile("^## (Terms|Promise (\\d+):).*$", Pattern.MULTILINE);
    private static final Pattern SIGNATURE = Pattern.compile("^[a-zA-Z ]+\\([^)]*\\)[^:]*: ");

    // A sentence with one of these may name a boundary case.
    private static final Pattern BOUNDARY = Pattern.compile("[0-9]|NONE|Throws|exception|most|last|empt|none"
            + "|any|at first|oldest|too |range|blanks|left out|not yet|\\bif\\b|nothing|remembered");

    private final Map<Integer, List<String>> sentences = new TreeMap<>();
    private final Map<Integer, List<String>> quotes = new TreeMap<>();

    Document() {
        try {
            read(Files.readString(PLACE).replace("`", ""));
        } catch (IOException e) {
            System.out.println("there is no document at " + PLACE + ": what the tests quote is not looked up");
        }
    }

    private void read(String text) {
        Matcher head = SECTION.matcher(text);
        while (head.find()) {
            int next = text.indexOf("\n## ", head.end());
            int promise = head.group(2) == null ? TERMS : Integer.parseInt(head.group(2));
            sentences.put(promise, sentencesOf(text.substring(head.end(), next < 0 ? text.length() : next)));
        }
    }

    /** A line that begins with a lower letter goes on with the sentence of the line ahead of it. */
    private static List<String> sentencesOf(String section) {
        List<String> all = new ArrayList<>();
        for (String paragraph : section.split("\n\\s*\n|\n(?=[A-Z0-9-])")) {
            String line = SIGNATURE.matcher(paragraph.trim().replaceAll("\\s+", " ")).replaceFirst("");
            for (String sentence : line.split("(?<=[.)]) (?=[A-Z(0-9])")) {
                all.add(sentence);
            }
        }
        return all;
    }

    /** Keeps that a test quotes a sentence, or a part of one; tells whether the document says so there. */
    boolean quote(int promise, String words) {
        quotes.computeIfAbsent(promise, p -> new ArrayList<>()).add(words);
        return sentences.isEmpty() || sentences.getOrDefault(promise, List.of()).stream()
                .anyMatch(sentence -> sentence.contains(words));
    }

    /** The sentences that may name a boundary case and that no test quotes. */
    List<String> unquoted() {
        List<String> missing = new ArrayList<>();
        sentences.forEach((promise, all) -> {
            List<String> quoted = quotes.getOrDefault(promise, List.of());
            for (String sentence : all) {
                boolean isWords = sentence.matches(".*[a-z]{2}.*");
                if (isWords && BOUNDARY.matcher(sentence).find() && quoted.stream().noneMatch(sentence::contains)) {
                    missing.add("promise " + promise + ": " + sentence);
                }
            }
        });
        return missing;
    }
}
