import java.util.List;

/** Every boundary case that the document names, sentence by sentence; and that no sentence of it is left without a test. */
public final class EdgeTest {
    public static void main(String[] args) {
        Check check = new Check("EdgeTest");
        Doc doc = new Doc();
        List<Edges> all = List.of(new EdgesOfText(check, doc), new EdgesOfActs(check, doc), new EdgesOfLikes(check, doc),
            new EdgesOfRoutes(check, doc), new EdgesOfWords(check, doc), new EdgesOfCharts(check, doc), new EdgesOfFace(check, doc));
        for (Edges edges : all) {
            edges.run();
        }
        check.none();
        check.is("promises", doc.isThere() ? 37 : 0, doc.promises());
        for (String words : doc.untouched()) {
            check.yes("no test is of " + words, false);
        }
        check.end();
    }
}
