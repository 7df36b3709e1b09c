import java.io.IOException;

/** Each sentence of the document that names an edge, with what is taken and what is not any more. */
public final class EdgesTest {
    public static void main(String[] args) throws IOException {
        Edges edges = new Edges(new Check());
        new EdgesOfMatters(edges).run();
        new EdgesOfStations(edges).run();
        new EdgesOfEvenings(edges).run();
        new EdgesOfAsked(edges).run();
        new EdgesOfHand(edges).run();
        new EdgesOfCalls(edges).run();
        edges.end();
    }
}
