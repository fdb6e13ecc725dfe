import java.io.IOException;
import java.nio.file.Files;
import java.nio.file.Path;
import java.util.List;
import java.util.regex.Matcher;
import java.util.regex.Pattern;
import java.util.stream.Collectors;
import java.util.stream.Stream;

/** Each promise and each of the document's terms is in one of the boundary tests, which then see to its sentences. */
final class EveryPartTest {
    public static void main(String[] args) throws IOException {
        String tests = boundaryTests();
        Matcher promise = Pattern.compile("\n## (Promise \\d+): ").matcher(Files.readString(Path.of("../shared/DOC.md")));
        int promises = 0;
        while (promise.find()) {
            promises++;
            Check.equal("a test of " + promise.group(1), true, tests.contains('"' + promise.group(1) + '"'));
        }
        Check.equal("promises", 61, promises);
        for (String term : new String[] {"Track", "Trains", "Packets", "Power", "Text input", "Changes"}) {
            Check.equal("a test of " + term, true, tests.contains("Sentences.of(\"" + term + "\")"));
        }
        Check.end();
    }

    private static String boundaryTests() throws IOException {
        StringBuilder all = new StringBuilder();
        try (Stream<Path> files = Files.list(Path.of("src/test/java"))) {
            List<Path> tests = files.filter(file -> file.toString().endsWith("BoundaryTest.java"))
                    .collect(Collectors.toList());
            for (Path test : tests) {
                all.append(Files.readString(test));
            }
        }
        return all.toString();
    }
}
