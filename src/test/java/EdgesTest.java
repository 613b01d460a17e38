import java.nio.file.Path;

/** Each sentence of the document that names a boundary case has a test of its own here. */
public final class EdgesTest {
    public static void main(String[] args) throws Exception {
        Edges edges = new Edges(new Doc(Path.of("../shared/DOC.md")));
        EdgesOfSteps.tell(edges);
        EdgesOfLaws.tell(edges);
        EdgesOfTexts.tell(edges);
        EdgesOfStories.tell(edges);
        EdgesOfShapes.tell(edges);
        EdgesOfFeet.tell(edges);
        EdgesOfSets.tell(edges);
        EdgesOfGate.tell(edges);
        EdgesOfChanges.tell(edges);
        EdgesOfActs.tell(edges);
        EdgesOfShelves.tell(edges);
        EdgesOfAnswers.tell(edges);
        edges.end();
    }
}
