import java.io.IOException;
import java.util.List;

/** Each sentence of the document that names an edge: a test of its own, just inside and just outside. */
final class EdgesTest {

    private EdgesTest() {
    }

    public static void main(String[] args) throws IOException {
        Document document = new Document();
        Edges edges = new Edges(document);
        TermsOneEdges.all(edges);
        TermsTwoEdges.all(edges);
        TermsThreeEdges.all(edges);
        TermsFourEdges.all(edges);
        TermsFiveEdges.all(edges);
        PromiseTellingEdges.all(edges);
        PromiseStepsEdges.all(edges);
        PromiseStateEdges.all(edges);
        PromiseAheadEdges.all(edges);
        PromiseCounselEdges.all(edges);
        boolean holds = edges.end("EdgesTest");
        if (document.count() != 55) {
            holds = false;
            System.out.println("of five parts and fifty promises " + document.count() + " were found");
        }
        List<String> untested = document.untested();
        for (String place : untested) {
            System.out.println("an edge without a test: " + place);
        }
        if (!holds || !untested.isEmpty()) {
            System.exit(1);
        }
    }
}
