/** Promise 3 and part 2: what the rule gives, and by it who tells whom and when. */
public final class RuleTest {
    public static void main(String[] args) {
        arithmetic();
        tests();
        values();
        withoutRule();
        doubles();
        delays();
        leastTeller();
        soonerByMore();
        burntOnes();
        dayOfFirstKnowing();
        Due.end("RuleTest");
    }

    /** Whether a clerk of side 0 tells another one by this rule. */
    private static boolean gives(String expression) {
        WavingDesks x = Due.desks("clerk 0 0 0;clerk 0 0 0;line 0 1 1;secret 5 0 0;tells " + expression + ";");
        return x.knows(0, 1, 0) == 1;
    }

    private static void holds(String expression, boolean due) {
        Due.is(expression, gives(expression), due);
    }

    private static void arithmetic() {
        holds("0", false);
        holds("1", true);
        holds("9999", true);
        holds("0-1", false);
        holds("7-2-3=2", true);
        holds("7-(2-3)=8", true);
        holds("2+3*4=14", true);
        holds("(2+3)*4=20", true);
        holds("100/7/2=7", true);
        holds("100/(7/2)=33", true);
        holds("2*7/3=4", true);
        holds("7/2*2=6", true);
        holds("(0-7)/2=0-3", true);
        holds("7/(0-2)=0-3", true);
        holds("5/0=0", true);
        holds("0/0+1", true);
        holds("5/(3-3)", false);
        // 65536 * 65536 is 0, 65536 * 32768 the least int
        holds("256*256*256*256=0", true);
        holds("256*256*256*128<0", true);
        holds("256*256*256*128-1<0", false);
        holds("256*256*256*128/(0-1)<0", true);
        holds("256*256*256*128", false);
    }

    private static void tests() {
        holds("1<2", true);
        holds("2<2", false);
        holds("2=2", true);
        holds("(1<2)=1", true);
        holds("(2<1)=0", true);
        holds("not 0", true);
        holds("not 5", false);
        holds("(not 0)=1", true);
        holds("not not 5", true);
        holds("(not not 5)=1", true);
        holds("not 1=2", true);
        holds("not 2<1", true);
        holds("(2 and 3)=1", true);
        holds("(2 or 0)=1", true);
        holds("(0 or 0)=0", true);
        holds("(0-1) and 1", true);
        holds("(0-1) or 0", true);
        holds("0-1 or 0", true);
        holds("1 and 0 or 1", true);
        holds("1 or 1 and 0", true);
        holds("(1 or 1) and 0", false);
        holds("0 and 1 or 0", false);
        holds("not 1 and 0 or 1", true);
        holds("not (1 and 0)", true);
        holds("not 0 and 0", false);
        holds("1+1<3 and 2*2=4", true);
    }

    /** The rule's worth for a first one, another one and a secret, told as equal to a number. */
    private static void value(String agents, String secret, String expression, boolean due) {
        WavingDesks x = Due.desks(agents + "line 0 1 1;" + secret + "tells " + expression + ";");
        Due.is(agents + secret + expression, x.line(0, 4), due ? 1 : 0);
    }

    private static void values() {
        String plain = "clerk 0 0 0;clerk 1 0 1;";
        String secret = "secret 7 0 0;";
        value(plain, secret, "worth=7", true);
        value("chief 0 0 0;codist 0 0 0;", secret, "from=1 and to=2", true);
        value("unmoved 0 0 0;clerk 0 0 0;", secret, "from=4 and to=0", true);
        value("clerk 0 0 0;double 0 0 0;", secret, "to=3", true);
        value(plain, secret, "same=0", true);
        value("clerk 1 0 0;clerk 1 0 1;", secret, "same=1", true);
        value("unmoved 0 0 0;clerk 1 0 1;", secret, "same=1 and loyal=1", true);
        value("clerk 1 1 0;unmoved 0 0 1;", secret, "same=1 and loyal=1", true);
        value(plain, secret, "loyal=0", true);
        value("clerk 0 1 0;clerk 1 0 1;", secret, "loyal=1", true);
        value("clerk 1 0 0;clerk 0 1 1;", secret, "loyal=1", true);
        value(plain, secret, "kin=0", true);
        value("clerk 0 0 3;clerk 1 0 3;", secret, "kin=1", true);
        value(plain, secret, "day=0", true);
        value(plain, secret, "own=1", true);
        value("clerk 0 1 0;clerk 1 0 1;", secret, "own=0", true);
        value("clerk 0 1 0;clerk 1 0 1;", "secret 7 1 0;", "own=1", true);
    }

    private static void withoutRule() {
        Due.is("one side", Due.desks("clerk 1 0 0;clerk 1 1 1;line 0 1 2;secret 1 0 0;").knows(0, 1, 0), 2);
        Due.is("two sides", Due.desks("clerk 1 0 0;clerk 0 1 1;line 0 1 2;secret 1 0 0;").knows(0, 1, 0), -1);
        Due.is("to unmoved", Due.desks("clerk 1 0 0;unmoved 0 1 1;line 0 1 2;secret 1 0 0;").knows(0, 1, 0), 2);
        Due.is("from unmoved", Due.desks("unmoved 1 0 0;clerk 0 1 1;line 0 1 2;secret 1 0 0;").knows(0, 1, 0), 2);
    }

    private static void doubles() {
        WavingDesks x = Due.desks("double 0 0 0;clerk 1 1 1;line 0 1 2;secret 1 0 0;tells 0;");
        Due.is("a double always tells", x.knows(0, 1, 0), 2);
        Due.is("by a line", x.line(0, 4), 1);
        x.burn(0, true);
        Due.is("not if burnt", x.knows(0, 1, 0), -1);
        Due.is("nor by a line", x.line(0, 4), 0);
        x.undo();
        x.cut(0, true);
        Due.is("not by a cut line", x.knows(0, 1, 0), -1);
        Due.is("to a double the rule counts",
            Due.desks("clerk 0 0 0;double 0 1 1;line 0 1 2;secret 1 0 0;tells 0;").knows(0, 1, 0), -1);
    }

    private static int delay(String from, String to, int days) {
        return Due.desks(from + " 0 0 0;" + to + " 0 0 0;line 0 1 " + days + ";secret 1 0 0;").knows(0, 1, 0);
    }

    private static void delays() {
        Due.is("clerk to clerk", delay("clerk", "clerk", 4), 4);
        Due.is("clerk to chief", delay("clerk", "chief", 4), 3);
        Due.is("clerk to chief, at least 1", delay("clerk", "chief", 1), 1);
        Due.is("codist to clerk", delay("codist", "clerk", 4), 5);
        Due.is("codist to clerk, 9", delay("codist", "clerk", 9), 10);
        Due.is("codist to chief", delay("codist", "chief", 4), 4);
        Due.is("codist to chief, 1", delay("codist", "chief", 1), 1);
        Due.is("chief to codist", delay("chief", "codist", 4), 4);
    }

    private static void leastTeller() {
        String agents = "clerk 0 0 0;clerk 0 0 0;clerk 0 0 0;clerk 0 0 0;";
        // 3 tells 2 and 1, who both tell 0 on day 4
        WavingDesks x = Due.desks(agents + "line 3 2 1;line 3 1 2;line 2 0 3;line 1 0 2;secret 1 0 3;");
        Due.is("day", x.knows(0, 0, 0), 4);
        Due.is("of like ones the least", x.knows(0, 0, 1), 1);
        WavingDesks y = Due.desks(agents + "line 3 2 1;line 3 1 2;line 2 0 2;line 1 0 2;secret 1 0 3;");
        Due.is("the first day", y.knows(0, 0, 0), 3);
        Due.is("from him who told it so", y.knows(0, 0, 1), 2);
        y.plant(0, 0, 3);
        Due.is("by himself on that day", y.knows(0, 0, 1), -1);
        y.undo();
        y.plant(0, 0, 4);
        Due.is("not by himself later", y.knows(0, 0, 1), 2);
        Due.is("nor on that day", y.knows(0, 0, 0), 3);
        y.plant(0, 0, 2);
        Due.is("planted twice, the first counts", y.knows(0, 0, 0), 2);
        y.plant(0, 3, 7);
        Due.is("the SOURCE knows it on day 0", y.knows(0, 3, 0), 0);
    }

    /** Who hears late by one and sooner by more tells it on the sooner day. */
    private static void soonerByMore() {
        WavingDesks x = Due.desks("clerk 0 0 0;clerk 0 0 0;clerk 0 0 0;clerk 0 0 0;"
            + "line 2 0 9;line 2 1 1;line 1 0 1;line 0 3 1;secret 1 0 2;");
        Due.is("by two", x.knows(0, 0, 0), 2);
        Due.is("from the second", x.knows(0, 0, 1), 1);
        Due.is("and so on", x.knows(0, 3, 0), 3);
    }

    private static void burntOnes() {
        WavingDesks x = Due.desks("clerk 0 0 0;clerk 0 0 0;clerk 0 0 0;line 0 1 1;line 1 2 1;secret 1 0 0;");
        Due.is("third", x.knows(0, 2, 0), 2);
        x.burn(1, true);
        Due.is("hears nothing", x.knows(0, 1, 0), -1);
        Due.is("tells nothing", x.knows(0, 2, 0), -1);
        Due.is("no line to him", x.line(0, 4), 0);
        x.plant(0, 1, 9);
        Due.is("but what is planted", x.knows(0, 1, 0), 9);
        Due.is("and tells nothing then", x.knows(0, 2, 0), -1);
        Due.is("no line from him", x.line(1, 4), 0);
        x.burn(0, true);
        Due.is("the source", x.knows(0, 0, 0), 0);
    }

    private static void dayOfFirstKnowing() {
        String text = "clerk 0 0 0;clerk 0 0 0;clerk 0 0 0;line 0 1 3;line 1 2 1;secret 1 0 0;tells day<3;";
        WavingDesks x = Due.desks(text);
        Due.is("too late", x.knows(0, 2, 0), -1);
        Due.is("not told by it", x.line(1, 4), 0);
        x.plant(0, 1, 2);
        Due.is("in time", x.knows(0, 2, 0), 3);
        Due.is("told by it", x.line(1, 4), 1);
        Due.is("told by it, though known", x.line(0, 4), 1);
    }
}
