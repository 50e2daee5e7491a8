/** Each sentence of the document that tells a limit, an edge or a refusal, by a test of its own that quotes it. */
public final class EdgeTest {
    public static void main(String[] args) {
        EdgesOfTerms.run();
        EdgesOfFaults.run();
        EdgesOfTelling.run();
        EdgesOfWhatIf.run();
        EdgesOfGames.run();
        EdgesOfAsking.run();
        EdgesOfActing.run();
        EdgesOfImagining.run();
        EdgesOfFull.run();
        Doc.allQuoted();
        Due.end("EdgeTest");
    }
}
