import java.io.IOException;
import java.util.List;

/**
 * Every sentence of the document that names a boundary case has a test of its own, which begins with that sentence;
 * the sentences are compared with the document.
 */
public final class BoundsTest {
    private BoundsTest() {
    }

    public static void main(String[] args) throws IOException {
        Check check = new Check();
        Bounds[] all = {
            new BoundsOfStopsAndLines(check), new BoundsOfTrams(check), new BoundsOfPassengers(check),
            new BoundsOfSecrets(check), new BoundsOfPaths(check), new BoundsOfLinesOfText(check),
            new BoundsOfCommands(check), new BoundsOfUndo(check),
        };
        for (Bounds bounds : all) {
            bounds.run();
        }
        compareWithTheDocument(check);
        check.finish();
    }

    private static void compareWithTheDocument(Check check) throws IOException {
        if (!Document.isThere()) {
            System.out.println("the document is not there: its sentences are not compared");
            return;
        }
        List<String> complaints = Document.read().complaintsOf(check.sentences());
        check.sentence("", "");
        for (String complaint : complaints) {
            check.complain(complaint);
        }
    }
}
