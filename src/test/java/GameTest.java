/** Promises 30 and 31: a game of two offices, years by a seed. */
public final class GameTest {
    public static void main(String[] args) {
        nobody();
        games();
        burntMayBeChosen();
        noneRests();
        years(5);
        years(0);
        wrongYears();
        yearsTogether();
        Due.end("GameTest");
    }

    private static void nobody() {
        WavingDesks x = new WavingDesks();
        Due.is("one couple", x.game(0), 1);
        Due.is("of nobody", x.game(1), 0);
        Due.is("years", x.years(1, 40, 2), 40);
        Due.noSuch("game(2)", () -> x.game(2));
        Due.noSuch("game(-1)", () -> x.game(-1));
    }

    private static void games() {
        Due.is("as the shared run", Due.desks(AskTest.BASE).game(0), 2);
        Due.is("as the shared run", Due.desks(AskTest.BASE).game(1), 14);
        // 0 of side 0 tells 1, who is of the other one: side 0 has one of them burnt
        WavingDesks x = Due.desks("clerk 0 0 0;clerk 0 1 0;line 0 1 1;secret 5 0 0;");
        Due.is("0 or 1 is burnt, the other side has nobody", x.game(0), 2);
        Due.is("the first", x.game(1), 10);
        // both secrets leak to the other side's one: the other side cannot help it
        WavingDesks y = Due.desks("clerk 0 0 0;clerk 1 0 0;secret 5 1 0;secret 4 1 1;");
        Due.is("all choices are alike", y.game(0), 4);
        Due.is("the first is of nobody", y.game(1), 0);
        // an unmoved one sits on both
        WavingDesks z = Due.desks("clerk 1 1 0;unmoved 0 1 0;clerk 1 0 0;line 0 1 1;line 1 2 1;secret 7 1 0;");
        // it leaks to 2 by the unmoved one: side 1 burns any of three, side 0 has nobody or the unmoved one
        Due.is("couples", z.game(0), 6);
        Due.is("the first", z.game(1), 1);
    }

    private static void burntMayBeChosen() {
        WavingDesks x = Due.desks("clerk 0 0 0;clerk 1 1 0;");
        Due.is("all rest", x.game(0), 4);
        x.burn(0, true);
        Due.is("he is no other choice than nobody, but one", x.game(0), 4);
    }

    private static void noneRests() {
        // side 0 has nobody or 2, side 1 nobody, 0 or 1: side 0 gains 1, -2, 0 or -2, 0, 0
        WavingDesks x = Due.desks("double 1 1 0;clerk 1 0 0;clerk 0 1 0;"
            + "line 1 2 1;line 2 1 1;line 1 0 2;line 0 2 3;secret 2 0 1;secret 3 1 0;tells 1;");
        Due.is("none rests", x.game(0), 0);
        Due.is("no first", x.game(1), -1);
    }

    /** The draws of the document, by longs. */
    private static long next(long seed) {
        return (seed * 1103515245L + 12345L) & 0xffffffffL;
    }

    /** The one agent knows it: it leaks, also without WORTH, while he is not of side 1. */
    private static void years(int worth) {
        WavingDesks x = Due.desks("clerk 0 0 0;secret " + worth + " 1 0;");
        for (int seed : new int[] {0, 1, -1, 12345, Integer.MIN_VALUE, Integer.MAX_VALUE}) {
            for (int n = 0; n <= 40; n += 8) {
                long s = seed & 0xffffffffL;
                int his = 0;
                int sum = 0;
                int quiet = 0;
                for (int year = 0; year < n; year++) {
                    s = next(next(s));
                    his = (s >> 16) % 4 == 0 ? 1 - his : his;
                    sum += his == 0 ? worth : 0;
                    quiet += his;
                }
                Due.is("years(" + seed + ", " + n + ", 0)", x.years(seed, n, 0), sum);
                Due.is("years(" + seed + ", " + n + ", 1)", x.years(seed, n, 1), n == 0 || quiet > 0 ? 0 : worth);
                Due.is("years(" + seed + ", " + n + ", 2)", x.years(seed, n, 2), quiet);
            }
        }
        Due.is("no ACT", x.count(10), 0);
        Due.is("HIS as before", x.agent(0, 2), 0);
    }

    private static void wrongYears() {
        WavingDesks x = Due.desks("clerk 0 0 0;secret 5 1 0;");
        Due.noSuch("years(1, 1, 3)", () -> x.years(1, 1, 3));
        Due.noSuch("years(1, 1, -1)", () -> x.years(1, 1, -1));
        Due.noSuch("years(1, 41, 3): what is ahead of n", () -> x.years(1, 41, 3));
        Due.illegal("years(1, 41, 0)", () -> x.years(1, 41, 0));
        Due.illegal("years(1, -1, 0)", () -> x.years(1, -1, 0));
    }

    /** Four agents: one year upon the other, from how it stands. */
    private static void yearsTogether() {
        String text = "clerk 0 0 0;clerk 0 1 0;unmoved 1 0 0;clerk 1 1 0;"
            + "line 0 1 1;line 1 2 1;line 2 3 1;line 3 0 1;secret 4 0 0;secret 3 1 1;secret 1 0 1;tells same+loyal;";
        int leasts = 0;
        for (int seed = 90; seed < 100; seed++) {
            WavingDesks x = Due.desks(text);
            x.burn(1, true);
            WavingDesks y = Due.desks(text);
            y.burn(1, true);
            long s = seed;
            int sum = 0;
            int least = 99;
            int none = 0;
            for (int year = 1; year <= 40; year++) {
                s = next(s);
                int agent = (int) ((s >> 16 & 32767) % 4);
                s = next(s);
                switch ((int) (s >> 16 & 3)) {
                    case 0 -> y.turn(agent);
                    case 1 -> y.move(agent);
                    case 2 -> y.burn(agent, y.agent(agent, 5) == 0);
                    default -> { }
                }
                sum += y.count(8);
                least = Math.min(least, y.count(8));
                none += y.count(7) == 0 ? 1 : 0;
                Due.is("seed " + seed + " after " + year, x.years(seed, year, 0), sum);
                Due.is("seed " + seed + ", the least after " + year, x.years(seed, year, 1), least);
                Due.is("seed " + seed + ", none after " + year, x.years(seed, year, 2), none);
                leasts += least;
            }
        }
        Due.is("the least is not always 0", leasts > 0, true);
    }
}
