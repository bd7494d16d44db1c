import java.nio.file.Path;

/** Each sentence of the document that names an edge, at the edge itself and one step to each side of it. */
public final class EdgesTest {
    private EdgesTest() {
    }

    public static void main(String[] args) throws Exception {
        EdgesOfLaw.tryAll();
        EdgesOfGround.tryAll();
        EdgesOfPeople.tryAll();
        EdgesOfWave.tryAll();
        EdgesOfLetters.tryAll();
        EdgesOfArguments.tryAll();
        EdgesOfRefusals.tryAll();
        Edge.end();
        Edge.checkSentences(Path.of(System.getProperty("drowned.doc", "../shared/DOC.md")));
        Check.end("EdgesTest");
    }
}
