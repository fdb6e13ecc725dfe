import java.io.IOException;
import java.nio.file.Files;
import java.nio.file.Path;
import java.util.regex.Matcher;
import java.util.regex.Pattern;

/** The examples of README.md stand here, or in Ask, line for line, and their numbers are the answers. */
final class ReadmeTest {
    private static final Pattern EXAMPLE = Pattern.compile("```java\n(.*?)```", Pattern.DOTALL);

    private final String readme = read("README.md");

    public static void main(String[] args) {
        ReadmeTest test = new ReadmeTest();
        test.examplesStandHere();
        TrainDecoder x = new TrainDecoder();
        test.commands();
        test.texts(x);
        test.errors(x);
        Check.end();
    }

    private void commands() {
        TrainDecoder x = new TrainDecoder();
        int waiting = x.setSpeed(3, 20);
        says("waiting", waiting);
        int sent = x.passTicks(10);
        says("sent", sent);
        int section = x.sectionOf(x.trainWith(3));
        says("section", section);
        int later = x.sectionAfter(0, 10);
        says("later", later);
        int left = x.undo();
        says("left", left);
    }

    private void texts(TrainDecoder x) {
        String railway = "track 12 3; tunnel 4; short 9; train 7 2 3 0; train 8 1 5 6;";
        append(x, railway);
        int trains = x.loadRailway(railway.length());
        says("trains", trains);
        String script = "speed 0 16; repeat 3 ( wait 4; ); stop 8; wait 1;";
        append(x, script);
        int executed = x.runScript(script.length());
        says("executed", executed);
        int speed = x.speed(0);
        says("speed", speed);
    }

    private void errors(TrainDecoder x) {
        String before = Ask.railway(x);
        String wrong = "track 12 3; train 7 2 3 12;";
        append(x, wrong);
        int none = x.loadRailway(wrong.length());
        says("none", none);
        int code = x.errorCode();
        says("code", code);
        int offset = x.errorOffset();
        says("offset", offset);
        Check.equal("the railway is as before", before, Ask.railway(x));
        Check.equal("bytes behind an error", 20, append(x, "x"));
    }

    private static int append(TrainDecoder x, String text) {
        return Ask.append(x, text);
    }

    /** The README has a line that answers a number with this name, and the comment behind it begins with the answer. */
    private void says(String name, int answer) {
        Matcher line = Pattern.compile("\nint " + name + " = [^\n]*; +// (-?\\d+)\\b").matcher(readme);
        Check.equal("README tells of " + name, true, line.find());
        Check.equal("README's " + name, line.group(1), Integer.toString(answer));
    }

    private void examplesStandHere() {
        String code = read("src/test/java/Ask.java") + read("src/test/java/ReadmeTest.java");
        Matcher example = EXAMPLE.matcher(readme);
        int examples = 0;
        for (; example.find(); examples++) {
            int from = 0;
            for (String line : example.group(1).split("\n")) {
                String statement = line.replaceFirst(" +// .*", "").trim();
                int at = code.indexOf(statement, from);
                Check.equal("README's line is run: " + statement, true, at >= 0);
                from = Math.max(at, from);
            }
        }
        Check.equal("examples", 4, examples);
    }

    private static String read(String file) {
        try {
            return Files.readString(Path.of(file));
        } catch (IOException e) {
            throw new IllegalStateException(file + " cannot be read");
        }
    }
}
