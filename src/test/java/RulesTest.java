import java.io.IOException;
import java.lang.reflect.Modifier;
import java.nio.file.Files;
import java.nio.file.Path;
import java.util.ArrayList;
import java.util.List;
import java.util.regex.Matcher;
import java.util.regex.Pattern;
import java.util.stream.Stream;

/** Those rules of LANGUAGE.md that can be seen in the source's words. */
public final class RulesTest {
    private static final String[] FORBIDDEN = {
        "\\bthrow\\b", "\\bthrows\\b", "\\btry\\b", "\\bcatch\\b", "\\bfinally\\b", "\\bsynchronized\\b", "\\bassert\\b",
        "->", "::", "@", "Exact\\b", "\\bequals\\b", "\\bhashCode\\b", "\\btoString\\b", "\\bprotected\\b",
        "\\bObject\\b", "\\bSystem\\.(?!arraycopy\\b)", "\\bRandom\\b", "\\bThread\\b", "\\bdouble\\b", "\\bfloat\\b",
        "\\bpackage\\b", "\\bstatic\\s*\\{", "while\\s*\\(true\\)", "for\\s*\\(;;\\)", "\\bnew\\s+\\w+\\s*\\([^()]*\\)\\s*\\{"
    };
    private static final Pattern METHOD = Pattern.compile(
            "^ +(?:public |private |static |final )*(?:int|long|boolean|void|[A-Z]\\w*) ?(\\w*)\\(([^()]*)\\) \\{$");

    private static int wrong = 0;

    private static void check(boolean holds, String what) {
        if (!holds) {
            wrong++;
            System.out.println("not so: " + what);
        }
    }

    private static String withoutCommentsAndTexts(String source) {
        return source.replaceAll("(?s)/\\*.*?\\*/", "").replaceAll("//[^\n]*", "").replaceAll("\"[^\"\n]*\"", "\"\"");
    }

    private static void checkWords(String code) {
        for (String word : FORBIDDEN) {
            Matcher m = Pattern.compile(word).matcher(code);
            check(!m.find(), "the source has no " + word);
        }
        Matcher imports = Pattern.compile("import ([\\w.]+);").matcher(code);
        while (imports.find()) {
            check(imports.group(1).equals("java.util.Arrays"), "no import of " + imports.group(1));
        }
    }

    private static void checkStatics(String code) {
        Matcher m = Pattern.compile("(?m)^.*\\bstatic\\b[^({]*[=;].*$").matcher(code);
        while (m.find()) {
            check(m.group().contains(" final "), "final: " + m.group());
        }
    }

    private static List<String> methodsOf(String[] lines) {
        List<String> names = new ArrayList<>();
        for (int i = 0; i < lines.length; i++) {
            Matcher m = METHOD.matcher(lines[i]);
            if (m.matches()) {
                names.add((lines[i].contains("public ") ? "public " : "hidden ") + m.group(1));
                check(m.group(2).split(",").length <= 7, "seven parameters at most: " + lines[i]);
                check(lengthFrom(lines, i) <= 60, "sixty lines at most: " + lines[i]);
            }
        }
        return names;
    }

    private static int lengthFrom(String[] lines, int from) {
        String end = lines[from].replaceAll("\\S.*", "") + "}";
        int n = 1;
        while (from + n < lines.length && !lines[from + n].equals(end)) {
            n++;
        }
        return n + 1;
    }

    private static void checkNames(List<String> methods) {
        for (String name : methods) {
            check(!name.startsWith("hidden ") || name.equals("hidden ")
                    || !methods.contains(name.replace("hidden ", "public ")), name + " has a name of its own");
        }
        check(methods.size() > 100, "the methods were found: " + methods.size());
    }

    /** Rule 11: some twelve classes, each of some twenty fields beside its constants. */
    private static void checkSizes() {
        List<Class<?>> classes = new ArrayList<>(List.of(AtTheDoor.class));
        for (int i = 0; i < classes.size(); i++) {
            Class<?> c = classes.get(i);
            classes.addAll(List.of(c.getDeclaredClasses()));
            long fields = Stream.of(c.getDeclaredFields()).filter(f -> !Modifier.isStatic(f.getModifiers())).count();
            check(fields <= 20, "twenty fields at most: " + c.getName());
            check(i == 0 || Modifier.isStatic(c.getModifiers()), "static: " + c.getName());
        }
        check(classes.size() <= 12, "twelve classes at most: " + classes.size());
    }

    public static void main(String[] args) throws IOException {
        String source = Files.readString(Path.of("src/main/java/AtTheDoor.java"));
        for (int i = 0; i < source.length(); i++) {
            check(source.charAt(i) == '\n' || source.charAt(i) >= 32 && source.charAt(i) < 127, "plain signs alone, at " + i);
        }
        String code = withoutCommentsAndTexts(source);
        checkWords(code);
        checkStatics(code);
        checkNames(methodsOf(code.split("\n")));
        checkSizes();
        System.out.println(wrong == 0 ? "the rules are kept" : wrong + " rules are broken");
        if (wrong != 0) {
            System.exit(1);
        }
    }
}
