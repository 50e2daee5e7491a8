/** What an EXPR gives, seen by whether a clerk tells another one of his SIDE by it. */
final class RuleGives {
    private RuleGives() {
    }

    static boolean holds(String expression) {
        WavingDesks x = Due.desks(EdgesOfTerms.TWO + "line 0 1 1;secret 5 0 0;tells " + expression + ";");
        return x.knows(0, 1, 0) == 1;
    }

    static boolean like(String expression, int number) {
        return holds("(" + expression + ")=" + number) && !holds("not (" + expression + ")=" + number);
    }
}
