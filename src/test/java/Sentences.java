import java.io.IOException;
import java.nio.file.Files;
import java.nio.file.Path;
import java.util.ArrayList;
import java.util.HashSet;
import java.util.List;
import java.util.Set;
import java.util.regex.Matcher;
import java.util.regex.Pattern;

/**
 * The sentences of one part of the document: of a promise ("Promise 2") or of the terms ("Track"). A test names the
 * sentence that it stands for, word for word, and at the part's end no sentence that names a boundary may be left over.
 */
final class Sentences {
    private static final Path DOCUMENT = Path.of("../shared/DOC.md");
    private static final String TERMS = "Track|Trains|Packets|Power|Text input|Changes";
    /** A sentence with a number, a condition or an end in it; "number of a train" is none. */
    private static final Pattern BOUNDARY = Pattern.compile("\\d|\\b(if|no|not|nothing|none|even|any|every|empty|emptied"
            + "|cleared|replaced|discarded|kept|cannot|always|maximal|several|completely|first|latest|only|since|Throws)\\b");

    private final String part;
    private final List<String> sentences = new ArrayList<>();
    private final Set<String> tested = new HashSet<>();

    private Sentences(String part) {
        this.part = part;
    }

    static Sentences of(String part) {
        Sentences made = new Sentences(part);
        made.split(textOf(part));
        return made;
    }

    private static String textOf(String part) {
        String terms = "\n\n" + part + "\\.\n\n(.*?)(?=\n\n(" + TERMS + ")\\.\n\n|\n\nAhead of )";
        String promise = "\n## " + part + ": [^\n]*\n(.*?)(?=\n## )";
        Matcher m = Pattern.compile(part.matches(TERMS) ? terms : promise, Pattern.DOTALL).matcher(document());
        Check.equal("the document has a part " + part, true, m.find());
        return m.group(1);
    }

    private static String document() {
        try {
            return Files.readString(DOCUMENT);
        } catch (IOException e) {
            throw new IllegalStateException("the document cannot be read");
        }
    }

    private void split(String text) {
        // A promise's first sentence stands behind the method's head, and code is fenced.
        String plain = text.replaceFirst("`[^`\n]*\\)[^`\n]*`: ", "").replace("```text", "").replace("```", "")
                .replace("`", "");
        for (String block : plain.split("\n\n+|\n(?=- |  )")) {
            String line = block.trim().replaceAll("\\s+", " ").replaceFirst("^- ", "");
            for (String sentence : line.split("(?<=\\.) (?=[A-Z])")) {
                if (!sentence.isEmpty()) {
                    sentences.add(sentence);
                }
            }
        }
    }

    /** The test stands for this sentence; a sentence may have several. */
    void holds(String sentence, Check.Call test) {
        Check.equal(part + " says: " + sentence, true, sentences.contains(sentence));
        tested.add(sentence);
        Check.run(part + ": " + sentence, test);
    }

    /** No sentence that names a boundary is left without a test. */
    void end() {
        for (String sentence : sentences) {
            if (BOUNDARY.matcher(sentence).find()) {
                Check.equal("a test of " + part + ": " + sentence, true, tested.contains(sentence));
            }
        }
    }
}
