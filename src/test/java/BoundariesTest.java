import java.io.IOException;
import java.nio.file.Path;

/** Every boundary of the document, promise by promise, each beside its sentence. Run it from the project's folder. */
public final class BoundariesTest {
    public static void main(String[] args) throws IOException {
        Boundaries b = new Boundaries(new Sentences(Path.of("../shared/DOC.md")));
        new DirectoryBoundaries(b).all();
        new WordBoundaries(b).all();
        new TextBoundaries(b).all();
        new MachineBoundaries(b).all();
        new CallBoundaries(b).all();
        new ThoughtBoundaries(b).all();
        b.end();
    }
}
