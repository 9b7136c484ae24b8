import java.io.IOException;
import java.lang.reflect.Field;
import java.lang.reflect.Method;
import java.net.URL;
import java.net.URLClassLoader;
import java.nio.file.Files;
import java.nio.file.Path;
import java.util.ArrayList;
import java.util.HashSet;
import java.util.List;
import java.util.Set;
import java.util.stream.Stream;
import javax.tools.ToolProvider;

/**
 * That the tests of boundaries see what they are there for: for each sentence the class is broken as breaks.txt
 * says, and the test of that sentence must fail.
 */
public final class BreaksTest {
    private static final Path SOURCE = Path.of("src/main/java/AtTheDoor.java");
    private static final Path TESTS = Path.of("src/test/boundaries");

    private record Break(int line, String sentence, String stands, String breaks) {
    }

    /** White space is folded, so that a break need not know how lines are cut. */
    private static String folded(String source) {
        return source.replaceAll("(?s)/\\*.*?\\*/", " ").replaceAll("//[^\n]*", " ").replaceAll("\\s+", " ");
    }

    private static List<Break> breaks() throws IOException {
        List<Break> all = new ArrayList<>();
        List<String> lines = Files.readAllLines(TESTS.resolve("breaks.txt"));
        String sentence = "";
        for (int i = 0; i < lines.size(); i++) {
            String line = lines.get(i).trim();
            if (line.startsWith("promise ")) {
                sentence = line;
            } else if (line.startsWith("- ") && i + 1 < lines.size() && lines.get(i + 1).startsWith("+")) {
                all.add(new Break(i + 1, sentence, line.substring(2), lines.get(i + 1).substring(1).trim()));
                i++;
            } else if (!line.isEmpty() && !line.startsWith("#")) {
                throw new IllegalStateException("breaks.txt, line " + (i + 1) + ": " + line);
            }
        }
        return all;
    }

    private static boolean compiles(Path file) {
        return ToolProvider.getSystemJavaCompiler().run(null, null, null,
                "-nowarn", "-proc:none", "-encoding", "UTF-8", "-d", file.getParent().toString(), file.toString()) == 0;
    }

    /** Whether the sentence's test fails with the class that stands in the first folder. */
    private static boolean fails(String sentence, Path broken, Path tests) throws IOException, ReflectiveOperationException {
        URL[] folders = {broken.toUri().toURL(), tests.toUri().toURL()};
        try (URLClassLoader loader = new URLClassLoader(folders, ClassLoader.getPlatformClassLoader())) {
            Method run = loader.loadClass("Boundaries").getDeclaredMethod("run", String.class);
            run.setAccessible(true);
            Object boundary = run.invoke(null, sentence);
            Field failed = boundary.getClass().getDeclaredField("failed");
            failed.setAccessible(true);
            return ((List<?>) failed.get(boundary)).contains(sentence);
        }
    }

    /** What is wrong with the break, or nothing. */
    private static String seen(Break b, String source, Path tests, Path room) {
        int at = source.indexOf(b.stands);
        if (at < 0 || source.indexOf(b.stands, at + 1) >= 0) {
            return "it does not stand once in the class";
        }
        try {
            Path folder = Files.createDirectories(room.resolve("line" + b.line));
            Path file = folder.resolve("AtTheDoor.java");
            Files.writeString(file, source.substring(0, at) + b.breaks + source.substring(at + b.stands.length()));
            if (!compiles(file)) {
                return "it does not compile";
            }
            return fails(b.sentence, folder, tests) ? "" : "the test of its sentence does not see it";
        } catch (IOException | ReflectiveOperationException e) {
            return e.toString();
        }
    }

    private static void clear(Path room) throws IOException {
        try (Stream<Path> files = Files.walk(room)) {
            files.sorted((a, b) -> b.compareTo(a)).forEach(f -> f.toFile().delete());
        }
    }

    private static List<String> complaints(Path room) throws IOException {
        // The tests of boundaries stand compiled beside this one; only the class is made anew for each break.
        Path tests = Path.of(System.getProperty("java.class.path"));
        String source = folded(Files.readString(SOURCE));
        List<Break> all = breaks();
        List<String> wrong = new ArrayList<>();
        Set<String> broken = new HashSet<>();
        all.forEach(b -> broken.add(b.sentence));
        for (String sentence : Boundaries.run("").ran) {
            if (!broken.contains(sentence)) {
                wrong.add("nothing breaks " + sentence);
            }
        }
        wrong.addAll(all.parallelStream()
                .map(b -> new String[] {seen(b, source, tests, room), "breaks.txt, line " + b.line + ": " + b.sentence})
                .filter(s -> !s[0].isEmpty()).map(s -> s[1] + "\n    " + s[0]).toList());
        System.out.println(all.size() + " breaks were tried");
        return wrong;
    }

    public static void main(String[] args) throws IOException {
        Path room = Files.createTempDirectory("breaks");
        List<String> wrong;
        try {
            wrong = complaints(room);
        } finally {
            clear(room);
        }
        wrong.forEach(System.out::println);
        System.out.println(wrong.isEmpty() ? "each was seen by the test of its sentence" : wrong.size() + " are wrong");
        if (!wrong.isEmpty()) {
            System.exit(1);
        }
    }
}
