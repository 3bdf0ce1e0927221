import java.io.IOException;
import java.nio.file.Files;
import java.nio.file.Path;

/** Every sentence of the document that names a boundary case: the case, the nearest one on its other side, what stays. */
public final class EdgesTest {
    private static final Path DOCUMENT = Path.of("../shared/DOC.md");

    private EdgesTest() {
    }

    public static void main(String[] args) throws IOException {
        EdgesOfTerms.run();
        EdgesOfTexts.run();
        EdgesOfSheets.run();
        EdgesOfPoints.run();
        EdgesOfDoors.run();
        EdgesOfFiner.run();
        EdgesOfPrices.run();
        EdgesOfWhatIf.run();
        EdgesOfChanges.run();
        EdgesOfDays.run();
        EdgesOfKept.run();
        if (Files.isReadable(DOCUMENT)) {
            Edge.holdAgainst(DOCUMENT);
        } else {
            System.out.println("no " + DOCUMENT + ": the sentences are not held against it");
        }
        Check.finish();
    }
}
