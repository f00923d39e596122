import java.util.List;

/**
 * Each sentence of the document that names a case at an edge (too small, too large, empty, full, a wrap-around, a
 * refused call) has a test of its own here, which quotes it; a sentence that none quotes is a failure too.
 */
public final class EdgesTest {
    public static void main(String[] args) {
        TermsEdges.run();
        FaultEdges.run();
        RowEdges.run();
        HouseEdges.run();
        DeedEdges.run();
        WayEdges.run();
        HabitEdges.run();
        ToldEdges.run();
        Edges.c.in("the document");
        List<String> left = Edges.doc.notQuoted();
        for (String words : left) {
            Edges.c.due("\"" + words + "\" has a test", 0, 1);
        }
        Edges.c.end();
    }
}
