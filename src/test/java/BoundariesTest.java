import java.io.IOException;
import java.nio.file.Files;
import java.nio.file.Path;
import java.util.ArrayList;
import java.util.List;

/** Each sentence of the document has its test under src/test/boundaries, names words that stand there, and holds. */
public final class BoundariesTest {
    private static final Path DOCUMENT = Path.of("../shared/DOC.md");

    private static List<String> complaints(Document document, List<String> names) {
        List<String> wrong = new ArrayList<>();
        for (String name : names) {
            int end = name.indexOf(": ");
            if (!document.names(Integer.parseInt(name.substring("promise ".length(), end)), name.substring(end + 2))) {
                wrong.add("these words do not stand once in the document: " + name);
            }
        }
        for (String rest : document.unnamed()) {
            wrong.add("no test names this: " + rest);
        }
        return wrong;
    }

    public static void main(String[] args) throws IOException {
        Boundary b = Boundaries.run("");
        System.out.print(b.said);
        int wrong = b.failed.size();
        // The tests can be run without the document; only whether they name its words can't be seen then.
        if (Files.exists(DOCUMENT)) {
            List<String> complaints = complaints(new Document(DOCUMENT), b.ran);
            complaints.forEach(System.out::println);
            wrong += complaints.size();
        } else {
            System.out.println("there is no " + DOCUMENT + ": the sentences' words were not looked up");
        }
        System.out.println(wrong == 0 ? b.ran.size() + " sentences hold" : wrong + " are wrong");
        if (wrong != 0) {
            System.exit(1);
        }
    }
}
