/** Promises 5 to 11, 21, 25, 26: what is, who knows it, by which chain, what leaked, what a side knows. */
public final class AskTest {
    static final String BASE = "clerk 0 0 0;chief 0 0 1;codist 1 0 0;double 1 1 2;unmoved 0 1 3;"
        + "line 0 1 3;line 1 2 2;line 2 3 4;line 3 0 1;line 0 4 5;line 4 2 1;"
        + "secret 5 0 0;secret 3 1 3;grudge 0 1;grudge 2 3;";
    // the days on which each agent knows a secret, and from whom
    private static final int[][] DAYS = {{0, 2, 6, 11, 5}, {1, 3, 7, 0, 6}};
    private static final int[][] FROM = {{-1, 0, 4, 2, 0}, {3, 0, 4, -1, 0}};
    private static final int[][][] CHAINS = {{{0}, {0, 1}, {0, 4, 2}, {0, 4, 2, 3}, {0, 4}},
        {{3, 0}, {3, 0, 1}, {3, 0, 4, 2}, {3}, {3, 0, 4}}};

    public static void main(String[] args) {
        counts();
        agents();
        lines();
        secrets();
        knowing();
        chains();
        sidesKnow();
        evenings();
        leaks();
        Due.end("AskTest");
    }

    private static void counts() {
        WavingDesks x = Due.desks(BASE);
        int[] due = {5, 6, 2, 2, 0, 0, 0, 3, 8, 10, 0, 0, 0, 0, 0, 0};
        for (int what = 0; what < 16; what++) {
            Due.is("count(" + what + ")", x.count(what), due[what]);
        }
        x.burn(0, true);
        x.burn(4, true);
        x.cut(3, true);
        x.plant(0, 4, 5);
        x.see(0, 0, 0, true);
        x.move(4);
        x.see(0, 0, -1, true);
        x.feed(0, 0, 0, 0, 0);
        // secret 0 is known to 0 and 4 alone, secret 1 to 3 alone
        int[] then = {5, 6, 2, 2, 17, 8, 1, 1, 5, 3, 4, 1, 20, 0, 1, 1};
        for (int what = 0; what < 16; what++) {
            Due.is("count(" + what + ") then", x.count(what), then[what]);
        }
        Due.noSuch("count(-1)", () -> x.count(-1));
        Due.noSuch("count(16)", () -> x.count(16));
        Due.noSuch("count(most)", () -> x.count(Integer.MAX_VALUE));
    }

    private static void agents() {
        WavingDesks x = Due.desks(BASE);
        int[][] due = {{0, 0, 0, 0, 3, 0}, {1, 0, 0, 1, 3, 0}, {2, 1, 0, 0, 3, 0}, {3, 1, 1, 2, 3, 0}, {4, 0, 1, 3, 3, 0}};
        for (int a = 0; a < 5; a++) {
            for (int what = 0; what < 6; what++) {
                Due.is("agent(" + a + ", " + what + ")", x.agent(a, what), due[a][what]);
            }
        }
        x.burn(4, true);
        Due.is("burnt", x.agent(4, 5), 1);
        Due.is("the burnt one knows nothing", x.agent(4, 4), 0);
        Due.is("nor does who heard from him alone", x.agent(2, 4), 0);
        Due.is("the double knows his own alone", x.agent(3, 4), 2);
        Due.noSuch("agent(-1, 0)", () -> x.agent(-1, 0));
        Due.noSuch("agent(5, 0)", () -> x.agent(5, 0));
        Due.noSuch("agent(0, -1)", () -> x.agent(0, -1));
        Due.noSuch("agent(0, 6)", () -> x.agent(0, 6));
    }

    private static void lines() {
        WavingDesks x = Due.desks(BASE);
        int[][] due = {{0, 1, 3, 0, 3}, {1, 2, 2, 0, 0}, {2, 3, 4, 0, 3}, {3, 0, 1, 0, 3}, {0, 4, 5, 0, 3}, {4, 2, 1, 0, 3}};
        for (int l = 0; l < 6; l++) {
            for (int what = 0; what < 5; what++) {
                Due.is("line(" + l + ", " + what + ")", x.line(l, what), due[l][what]);
            }
        }
        x.cut(3, true);
        Due.is("cut", x.line(3, 3), 1);
        Due.is("nothing by a cut line", x.line(3, 4), 0);
        Due.is("nor what would have come by it", x.line(0, 4), 1);
        x.burn(1, true);
        Due.is("nothing to who is burnt", x.line(0, 4), 0);
        Due.noSuch("line(-1, 0)", () -> x.line(-1, 0));
        Due.noSuch("line(6, 0)", () -> x.line(6, 0));
        Due.noSuch("line(0, -1)", () -> x.line(0, -1));
        Due.noSuch("line(0, 5)", () -> x.line(0, 5));
    }

    private static void secrets() {
        WavingDesks x = Due.desks(BASE);
        int[][] due = {{5, 0, 0, 5, 4, 5}, {3, 1, 3, 1, 0, 5}};
        for (int s = 0; s < 2; s++) {
            for (int what = 0; what < 6; what++) {
                Due.is("secret(" + s + ", " + what + ")", x.secret(s, what), due[s][what]);
            }
        }
        Due.noSuch("secret(-1, 0)", () -> x.secret(-1, 0));
        Due.noSuch("secret(2, 0)", () -> x.secret(2, 0));
        Due.noSuch("secret(0, -1)", () -> x.secret(0, -1));
        Due.noSuch("secret(0, 6)", () -> x.secret(0, 6));
    }

    private static void knowing() {
        WavingDesks x = Due.desks(BASE);
        for (int s = 0; s < 2; s++) {
            for (int a = 0; a < 5; a++) {
                Due.is("knows(" + s + ", " + a + ", 0)", x.knows(s, a, 0), DAYS[s][a]);
                Due.is("knows(" + s + ", " + a + ", 1)", x.knows(s, a, 1), FROM[s][a]);
                Due.is("knows(" + s + ", " + a + ", 2)", x.knows(s, a, 2), CHAINS[s][a].length);
                for (int day = -1; day < 13; day++) {
                    int known = (DAYS[0][a] <= day ? 1 : 0) + (DAYS[1][a] <= day ? 2 : 0);
                    Due.is("heard(" + a + ", " + day + ")", x.heard(a, day), known);
                }
            }
        }
        Due.is("heard at last", x.heard(3, Integer.MAX_VALUE), 3);
        Due.is("heard before all", x.heard(3, Integer.MIN_VALUE), 0);
        x.burn(1, true);
        Due.is("never", x.knows(0, 1, 0), -1);
        Due.is("never, from whom", x.knows(0, 1, 1), -1);
        Due.is("never, chain", x.knows(0, 1, 2), 0);
        Due.noSuch("knows(2, 0, 0)", () -> x.knows(2, 0, 0));
        Due.noSuch("knows(-1, 0, 0)", () -> x.knows(-1, 0, 0));
        Due.noSuch("knows(0, 5, 0)", () -> x.knows(0, 5, 0));
        Due.noSuch("knows(0, -1, 0)", () -> x.knows(0, -1, 0));
        Due.noSuch("knows(0, 0, 3)", () -> x.knows(0, 0, 3));
        Due.noSuch("knows(0, 0, -1)", () -> x.knows(0, 0, -1));
        Due.noSuch("heard(5, 0)", () -> x.heard(5, 0));
        Due.noSuch("heard(-1, 0)", () -> x.heard(-1, 0));
    }

    private static void chains() {
        WavingDesks x = Due.desks(BASE);
        for (int s = 0; s < 2; s++) {
            for (int a = 0; a < 5; a++) {
                int secret = s;
                int agent = a;
                for (int i = 0; i < CHAINS[s][a].length; i++) {
                    Due.is("chain(" + s + ", " + a + ", " + i + ")", x.chain(s, a, i), CHAINS[s][a][i]);
                }
                Due.noSuch("chain behind", () -> x.chain(secret, agent, CHAINS[secret][agent].length));
                Due.noSuch("chain ahead", () -> x.chain(secret, agent, -1));
            }
        }
        x.burn(1, true);
        Due.noSuch("chain of one who never knows", () -> x.chain(0, 1, 0));
        Due.noSuch("chain(2, 0, 0)", () -> x.chain(2, 0, 0));
        Due.noSuch("chain(0, 5, 0)", () -> x.chain(0, 5, 0));
        StringBuilder row = new StringBuilder("clerk 0 0 0;".repeat(8) + "secret 1 0 7;");
        for (int i = 7; i > 0; i--) {
            row.append("line ").append(i).append(' ').append(i - 1).append(" 9;");
        }
        WavingDesks y = Due.desks(row.toString());
        Due.is("the longest chain", y.knows(0, 0, 2), 8);
        Due.is("its last one", y.chain(0, 0, 7), 0);
        Due.is("its first one", y.chain(0, 0, 0), 7);
        Due.is("its day", y.farthest(), 63);
    }

    private static void sidesKnow() {
        WavingDesks x = Due.desks(BASE);
        // side 0 has 0, 1, 2; side 1 has 3, 4
        Due.is("known(0, -1)", x.known(0, -1), 0);
        Due.is("known(0, 0)", x.known(0, 0), 5);
        Due.is("known(0, 1)", x.known(0, 1), 8);
        Due.is("known(1, 0)", x.known(1, 0), 3);
        Due.is("known(1, 4)", x.known(1, 4), 3);
        Due.is("known(1, 5)", x.known(1, 5), 8);
        x.turn(4);
        Due.is("known(1, 5), one turned", x.known(1, 5), 3);
        Due.is("known(1, 11), one turned", x.known(1, 11), 8);
        Due.noSuch("known(2, 0)", () -> x.known(2, 0));
        Due.noSuch("known(-1, 0)", () -> x.known(-1, 0));
    }

    private static void evenings() {
        WavingDesks x = Due.desks(BASE);
        // 0, 1 sit on side 0 and 2, 3 on side 1; the unmoved one doesn't wave
        Due.is("waves(-1)", x.waves(-1), 4);
        Due.is("waves(0): 0 with 3, 1 with 2", x.waves(0), 2);
        Due.is("waves(1): 1 with 2", x.waves(1), 1);
        Due.is("waves(2): 1 with 3", x.waves(2), 1);
        Due.is("waves(3): nobody", x.waves(3), 0);
        Due.is("waves(7): both with 2", x.waves(7), 2);
        Due.is("waves(11)", x.waves(11), 4);
        x.move(2);
        Due.is("waves(-1), one moved", x.waves(-1), 3);
        Due.is("waves(11): 3 doesn't hear it across the sides", x.waves(11), 0);
        Due.is("farthest()", Due.desks(BASE).farthest(), 11);
        Due.is("farthest() without secrets", Due.desks("clerk 0 0 0;").farthest(), -1);
        Due.is("farthest() with a source alone", Due.desks("clerk 0 0 0;secret 1 0 0;").farthest(), 0);
    }

    private static void leaks() {
        WavingDesks x = Due.desks("clerk 0 1 0;clerk 0 0 0;clerk 0 1 0;line 1 2 4;line 1 0 4;secret 0 0 1;secret 9 1 1;");
        Due.is("the day", x.secret(0, 3), 4);
        Due.is("of like ones the least", x.secret(0, 4), 0);
        Due.is("a SOURCE who is not of the side", x.secret(1, 3), 0);
        Due.is("to himself", x.secret(1, 4), 1);
        Due.is("also without WORTH", x.count(7), 3);
        Due.is("WORTH", x.count(8), 9);
        x.turn(0);
        Due.is("the next one", x.secret(0, 4), 2);
        x.turn(2);
        Due.is("none any more", x.secret(0, 4), -1);
        Due.is("on no day", x.secret(0, 3), -1);
        Due.is("leaked", x.count(7), 2);
    }
}
