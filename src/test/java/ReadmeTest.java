import java.io.IOException;
import java.lang.reflect.Method;
import java.lang.reflect.Modifier;
import java.net.URL;
import java.net.URLClassLoader;
import java.nio.file.Files;
import java.nio.file.Path;
import java.util.regex.Matcher;
import java.util.regex.Pattern;
import java.util.stream.Stream;
import javax.tools.ToolProvider;

/** README.md names each call and each test, and its examples do what they say: "x.y(); // 5" answers 5. */
public final class ReadmeTest {
    private static final Pattern BLOCK = Pattern.compile("(?s)```java\n(.*?)```");
    private static final Pattern ANSWER = Pattern.compile("(?m)^(?:int|long) (\\w+) = .*; *// (-?\\w+)(?:[:,].*)?$");

    private static int wrong = 0;

    private static void check(boolean holds, String what) {
        if (!holds) {
            wrong++;
            System.out.println("not so: " + what);
        }
    }

    private static void checkNames(String readme) throws IOException {
        for (Method m : AtTheDoor.class.getDeclaredMethods()) {
            if (Modifier.isPublic(m.getModifiers())) {
                check(readme.contains("`" + m.getName() + "("), "README.md tells of " + m.getName());
            }
        }
        try (Stream<Path> tests = Files.list(Path.of("src/test/java"))) {
            tests.map(t -> t.getFileName().toString().replace(".java", ""))
                    .forEach(t -> check(readme.contains("| `" + t + "` |"), "README.md tells of " + t));
        }
    }

    /** All examples go on with one object; behind them each answer that they tell is compared. */
    private static String program(String readme) {
        StringBuilder examples = new StringBuilder();
        StringBuilder checks = new StringBuilder();
        Matcher blocks = BLOCK.matcher(readme);
        while (blocks.find()) {
            examples.append(blocks.group(1));
        }
        Matcher answers = ANSWER.matcher(examples);
        int told = 0;
        while (answers.find()) {
            told++;
            checks.append(String.format("if (%s != %s) wrong += \" %s\" + \"=\" + %s;\n",
                    answers.group(1), answers.group(2), answers.group(1), answers.group(1)));
        }
        check(told >= 10, "README.md's examples tell answers: " + told);
        return "public final class Examples {\npublic static String wrong() {\nString wrong = \"\";\n"
                + examples + checks + "return wrong;\n}\n}\n";
    }

    private static String answersOf(String program, Path room) throws IOException, ReflectiveOperationException {
        Path file = room.resolve("Examples.java");
        Files.writeString(file, program);
        String classes = System.getProperty("java.class.path");
        if (ToolProvider.getSystemJavaCompiler().run(null, null, null,
                "-nowarn", "-proc:none", "-cp", classes, "-d", room.toString(), file.toString()) != 0) {
            return "they do not compile";
        }
        try (URLClassLoader loader = new URLClassLoader(new URL[] {room.toUri().toURL()})) {
            return (String) loader.loadClass("Examples").getMethod("wrong").invoke(null);
        }
    }

    public static void main(String[] args) throws IOException, ReflectiveOperationException {
        String readme = Files.readString(Path.of("README.md"));
        checkNames(readme);
        Path room = Files.createTempDirectory("readme");
        try {
            String answers = answersOf(program(readme), room);
            check(answers.isEmpty(), "the examples' answers:" + answers);
        } finally {
            Files.deleteIfExists(room.resolve("Examples.class"));
            Files.deleteIfExists(room.resolve("Examples.java"));
            Files.deleteIfExists(room);
        }
        System.out.println(wrong == 0 ? "README.md is as due" : wrong + " are wrong");
        if (wrong != 0) {
            System.exit(1);
        }
    }
}
