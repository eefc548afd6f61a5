import java.io.IOException;
import java.nio.file.Files;
import java.nio.file.Path;

/** Each sentence of the document that names a boundary case, by itself. Its argument is the project's folder. */
public final class BoundsTest {
    public static void main(String[] args) throws IOException {
        Path root = Path.of(args.length > 0 ? args[0] : ".").toAbsolutePath();
        Check check = new Check("BoundsTest");
        Sentences s = new Sentences(check, Files.readString(root.resolve("../shared/DOC.md")));
        Bounds[] all = {new BoundsOfHouses(s), new BoundsOfRules(s), new BoundsOfMinutes(s), new BoundsOfAsking(s),
            new BoundsOfGoings(s), new BoundsOfCalls(s)};
        for (Bounds bounds : all) {
            bounds.hold();
        }
        s.close();
        check.close();
    }
}
