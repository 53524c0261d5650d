import java.io.IOException;

/** The document, sentence by sentence: what is too small, too large, empty, full, refused. */
public final class EdgesTest {
    public static void main(String[] args) throws IOException {
        Checks c = new Checks();
        new EdgesOfTexts(c).all();
        new EdgesOfTableaus(c).all();
        new EdgesOfTape(c).all();
        new EdgesOfFormulas(c).all();
        new EdgesOfProofs(c).all();
        new EdgesOfModels(c).all();
        new EdgesOfRefusals(c).all();
        Document.compare(c);
        c.end("EdgesTest");
    }
}
