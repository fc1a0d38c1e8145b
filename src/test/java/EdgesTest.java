import java.io.IOException;

/** Every sentence of the document's terms and promises has a test that names it, and holds at its edges. */
public final class EdgesTest {
    public static void main(String[] args) throws IOException {
        Doc doc = Doc.isThere() ? new Doc() : null;
        Due due = new Due(doc);
        new YearEdges(due).run();
        new LoanEdges(due).run();
        new AskingEdges(due).run();
        new KindEdges(due).run();
        new RefusalEdges(due).run();
        new ValleyCallEdges(due).run();
        new DeedCallEdges(due).run();
        new AskingCallEdges(due).run();
        new KindCallEdges(due).run();
        due.sentence("all of it", "");
        if (doc == null) {
            System.out.println("the document is not here: its sentences were not looked up");
        } else {
            nothingIsLeftOut(due, doc);
        }
        due.end();
    }

    private static void nothingIsLeftOut(Due due, Doc doc) {
        due.is("sections: four of Terms, 26 promises", doc.names().size(), 30);
        for (String left : doc.unquoted()) {
            due.is("no test names " + left, 1, 0);
        }
    }
}
