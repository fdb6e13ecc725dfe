import java.io.IOException;
import java.lang.reflect.Constructor;
import java.lang.reflect.Field;
import java.lang.reflect.Method;
import java.lang.reflect.Modifier;
import java.nio.file.Files;
import java.nio.file.Path;
import java.util.ArrayList;
import java.util.Arrays;
import java.util.List;
import java.util.Set;
import java.util.TreeSet;
import java.util.regex.Matcher;
import java.util.regex.Pattern;

/** The public face is the document's, word for word, and the source keeps to what can be seen of the language's rules. */
final class FaceTest {
    private static final Path SOURCE = Path.of("src/main/java/TrainDecoder.java");
    private static final Path DOCUMENT = Path.of("../shared/DOC.md");

    public static void main(String[] args) throws IOException {
        Check.equal("public face", face(documentedFace()), face(ownFace()));
        Check.equal("public final class", Modifier.PUBLIC | Modifier.FINAL, TrainDecoder.class.getModifiers());
        membersAreHidden();
        privateNamesAreTheirOwn();
        staticsAreFinal();
        wordsThatTheRulesLeaveOut();
        Check.end();
    }

    private static String face(List<String> lines) {
        return String.join("\n", new TreeSet<>(lines));
    }

    private static List<String> documentedFace() throws IOException {
        String text = Files.readString(DOCUMENT);
        Matcher face = Pattern.compile("public final class TrainDecoder \\{\n(.*?)\n}", Pattern.DOTALL).matcher(text);
        List<String> lines = new ArrayList<>();
        if (face.find()) {
            for (String line : face.group(1).split("\n")) {
                lines.add(line.trim().replace(";", ""));
            }
        }
        Check.equal("documented members", true, lines.size() > 60);
        return lines;
    }

    /** Lines of the source that declare public members, with their parameters' names. */
    private static List<String> ownFace() throws IOException {
        String text = Files.readString(SOURCE);
        Matcher member = Pattern.compile("\n    (public [^{;=]*?)\\s*\\{", Pattern.DOTALL).matcher(text);
        List<String> lines = new ArrayList<>();
        while (member.find()) {
            lines.add(member.group(1).replaceAll("\\s+", " "));
        }
        return lines;
    }

    private static void membersAreHidden() {
        int publicOnes = 0;
        for (Method method : TrainDecoder.class.getDeclaredMethods()) {
            publicOnes += Modifier.isPublic(method.getModifiers()) ? 1 : 0;
            Check.equal("method " + method.getName(), true,
                    Modifier.isPublic(method.getModifiers()) || Modifier.isPrivate(method.getModifiers()));
        }
        Check.equal("public methods", 60, publicOnes);
        for (Field field : TrainDecoder.class.getDeclaredFields()) {
            Check.equal("field " + field.getName(), true, Modifier.isPrivate(field.getModifiers()));
        }
        for (Constructor<?> constructor : TrainDecoder.class.getDeclaredConstructors()) {
            Check.equal("parameters of the constructor", 0, constructor.getParameterCount());
        }
        for (Class<?> inside : TrainDecoder.class.getDeclaredClasses()) {
            Check.equal("class " + inside.getName(), true,
                    Modifier.isPrivate(inside.getModifiers()) && Modifier.isStatic(inside.getModifiers()));
        }
        Check.equal("classes in all", true, TrainDecoder.class.getDeclaredClasses().length <= 12);
    }

    private static void privateNamesAreTheirOwn() {
        Set<String> publicNames = new TreeSet<>();
        for (Method method : TrainDecoder.class.getDeclaredMethods()) {
            if (Modifier.isPublic(method.getModifiers())) {
                publicNames.add(method.getName());
            }
        }
        for (Class<?> owner : allClasses()) {
            for (Method method : owner.getDeclaredMethods()) {
                Check.equal("parameters of " + method.getName(), true, method.getParameterCount() <= 7);
                if (!Modifier.isPublic(method.getModifiers())) {
                    Check.equal("name of " + method.getName(), false, publicNames.contains(method.getName()));
                }
            }
        }
    }

    private static void staticsAreFinal() {
        for (Class<?> owner : allClasses()) {
            int fields = 0;
            for (Field field : owner.getDeclaredFields()) {
                boolean isStatic = Modifier.isStatic(field.getModifiers());
                fields += isStatic ? 0 : 1;
                Check.equal(field.getName() + " is final", true, !isStatic || Modifier.isFinal(field.getModifiers()));
            }
            Check.equal("fields of " + owner.getName(), true, fields <= 20);
        }
    }

    private static List<Class<?>> allClasses() {
        List<Class<?>> all = new ArrayList<>(Arrays.asList(TrainDecoder.class.getDeclaredClasses()));
        all.add(TrainDecoder.class);
        return all;
    }

    private static void wordsThatTheRulesLeaveOut() throws IOException {
        String code = Files.readString(SOURCE).replaceAll("(?s)/\\*.*?\\*/|//[^\n]*", "");
        String[] leftOut = {
            "import", "package", "catch", "try", "finally", "synchronized", "assert", "instanceof", "protected",
            "volatile", "native", "var", "yield", "->", "::", "Exact(", ".equals(", "hashCode", "toString", "getClass",
            "System.out", "System.nanoTime", "System.currentTimeMillis", "Thread", "Random", "Object",
        };
        for (String word : leftOut) {
            Check.equal("the source holds " + word, false, contains(code, word));
        }
        Check.equal("signs beyond 127", true, code.chars().allMatch(sign -> sign < 128));
    }

    private static boolean contains(String code, String word) {
        String edge = Character.isLetter(word.charAt(0)) ? "\\b" : "";
        return Pattern.compile(edge + Pattern.quote(word) + (edge.isEmpty() || !Character.isLetter(
                word.charAt(word.length() - 1)) ? "" : "\\b")).matcher(code).find();
    }
}
