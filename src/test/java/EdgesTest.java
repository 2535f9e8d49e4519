/** Every sentence of the document with the edges that it names, each by checks of its own. */
public final class EdgesTest {
    public static void main(String[] args) {
        Sentences sentences = new Sentences(args.length > 0 ? args[0] : "../shared/DOC.md");
        new EdgesOfTerms(sentences).check();
        new EdgesOfBoats(sentences).check();
        new EdgesOfDays(sentences).check();
        new EdgesOfRaces(sentences).check();
        new EdgesOfCharts(sentences).check();
        new EdgesOfPaces(sentences).check();
        new EdgesOfChances(sentences).check();
        new EdgesOfKept(sentences).check();
        sentences.finish();
    }
}
