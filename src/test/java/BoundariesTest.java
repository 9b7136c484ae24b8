import java.io.IOException;
import java.nio.file.Path;

/** Each sentence of the document has its test under src/test/boundaries, names words that stand there, and holds. */
public final class BoundariesTest {
    public static void main(String[] args) throws IOException {
        Boundary b = Boundaries.run("");
        System.out.print(b.said);
        int wrong = b.failed.size();
        Document document = new Document(Path.of("../shared/DOC.md"));
        for (String name : b.ran) {
            int end = name.indexOf(": ");
            if (!document.names(Integer.parseInt(name.substring("promise ".length(), end)), name.substring(end + 2))) {
                wrong++;
                System.out.println("these words do not stand once in the document: " + name);
            }
        }
        for (String rest : document.unnamed()) {
            wrong++;
            System.out.println("no test names this: " + rest);
        }
        System.out.println(wrong == 0 ? b.ran.size() + " sentences hold" : wrong + " are wrong");
        if (wrong != 0) {
            System.exit(1);
        }
    }
}
