/** Part 4: what is SEEN and WHO ELSE told it, a GAME, YEARS, STATUS and AN IMAGE. */
final class EdgesOfGames {
    private static final String PAIRS = "clerk 0 0 0;clerk 0 0 0;clerk 1 0 0;chief 1 0 0;"
        + "line 0 1 4;line 2 3 3;secret 5 0 0;secret 2 0 2;";
    private static final int[] SEEDS = {0, 1, -1, 7, 32767, 65536, -65536, 2147483647, -2147483648};

    private EdgesOfGames() {
    }

    static void run() {
        seen();
        whoElse();
        whoFirst();
        choices();
        gains();
        years();
        draws();
        status();
        image();
    }

    private static void says(String words, Runnable test) {
        Due.says("4", words, test);
    }

    private static void seen() {
        says("SEEN (at most 8): that an AGENT knew a SECRET by a DAY (0 to 99), or didn't.", () -> {
            WavingDesks x = Due.desks(PAIRS);
            for (int i = 1; i <= 8; i++) {
                Due.is("the " + i + "th", x.see(0, 1, i, false), i);
            }
            Due.is("the 9th", x.see(0, 1, 9, true), -1);
            Due.is("SEEN", x.count(11), 8);
            int[] days = {Integer.MIN_VALUE, -1, 0, 1, 98, 99, 100, Integer.MAX_VALUE};
            for (int day : days) {
                boolean taken = day >= 0 && day <= 99;
                Due.is("on DAY " + day, Due.desks(PAIRS).see(0, 1, day, true), taken ? 1 : -1);
            }
            // 1 knows it on DAY 4, 2 never
            for (int bits = 0; bits < 4; bits++) {
                boolean knew = (bits & 1) == 1;
                WavingDesks y = Due.desks(PAIRS);
                y.see(0, 1, 3 + bits / 2, knew);
                Due.is("by DAY " + (3 + bits / 2), y.who(0, 2), knew == (bits / 2 == 1) ? 1 : 0);
                WavingDesks z = Due.desks(PAIRS);
                z.see(0, 2, bits < 2 ? 0 : 99, knew);
                Due.is("who never does", z.who(0, 2), knew ? 0 : 1);
            }
        });
    }

    private static void whoElse() {
        says("WHO ELSE told it: AGENTS with whom", () -> {
            WavingDesks x = Due.desks(PAIRS);
            Due.is("all four, if nothing is SEEN", x.who(0, 0), 84);
            x.see(0, 2, 99, true);
            Due.is("2 alone", x.who(0, 0), 21);
            Due.is("2 is the first", x.who(0, 1), 200);
            x.burn(2, true);
            Due.is("a BURNT one too", x.who(0, 0), 21);
            x.see(0, 3, 99, true);
            Due.is("but he doesn't tell it", x.who(0, 0), 0);
            // with the SOURCE too
            WavingDesks y = Due.desks(PAIRS);
            y.see(0, 1, 3, false);
            y.see(0, 2, 99, false);
            y.see(0, 3, 99, false);
            Due.is("the SOURCE on any DAY, 1 from DAY 4 on", y.who(0, 0), 38);
        });
        says("PLANTED (one more)", () -> {
            WavingDesks x = Due.desks(PAIRS);
            x.see(0, 3, 10, true);
            for (int planted = 0; planted <= 4; planted++) {
                Due.is("beside " + planted, x.who(0, 0), 20);
                Due.is("PLANTED as before", x.count(6), planted);
                x.plant(0, 3, 50 + planted);
            }
            // four are PLANTED with 1 to 4, and SEEN to know it: with 5 it is one more
            WavingDesks y = Due.desks(EdgesOfTerms.clerks(6) + "secret 1 0 0;");
            for (int a = 1; a <= 4; a++) {
                y.plant(0, a, a);
                y.see(0, a, a, true);
            }
            Due.is("so without", y.who(0, 2), 1);
            y.see(0, 5, 20, true);
            Due.is("not so without", y.who(0, 2), 0);
            Due.is("with 5", y.who(0, 0), 21);
            Due.is("the first", y.who(0, 1), 500);
        });
        says("on a DAY (0 to 20)", () -> {
            for (int day = 0; day <= 22; day++) {
                WavingDesks x = Due.desks("clerk 0 0 0;clerk 1 0 0;secret 1 0 0;");
                x.see(0, 1, day, true);
                if (day > 0) {
                    x.see(0, 1, day - 1, false);
                }
                Due.is("on DAY " + day + " alone", x.who(0, 0), day <= 20 ? 1 : 0);
                Due.is("the first", x.who(0, 1), day <= 20 ? 100 + day : -1);
            }
        });
        says("all SEEN would be so", () -> {
            WavingDesks x = Due.desks(PAIRS);
            x.see(0, 3, 10, true);
            Due.is("the first sight", x.who(0, 0), 20);
            x.see(0, 3, 7, false);
            Due.is("two", x.who(0, 0), 6);
            x.see(0, 2, 99, false);
            Due.is("three", x.who(0, 0), 3);
            x.see(1, 3, 1, true);
            Due.is("four, one of the other SECRET, which isn't so", x.who(0, 0), 0);
            Due.is("nor is it by that one", x.who(1, 0), 0);
            // eight sights, the last of which alone isn't so
            WavingDesks y = Due.desks(PAIRS);
            for (int i = 0; i < 7; i++) {
                y.see(0, 0, i, true);
            }
            Due.is("seven", y.who(0, 0), 84);
            y.see(0, 0, 99, false);
            Due.is("eight", y.who(0, 0), 0);
        });
    }

    private static void whoFirst() {
        says("couples of both: how many", () -> {
            Due.is("nobody could be asked", Due.answer(() -> new WavingDesks().who(0, 0)), "NoSuchElementException");
            Due.is("one AGENT", Due.desks("clerk 0 0 0;secret 1 0 0;").who(0, 0), 21);
            Due.is("eight", Due.desks(EdgesOfTerms.clerks(8) + "secret 1 0 0;").who(0, 0), 168);
        });
        says("the first (by AGENTS, then DAYS: 100 by the AGENT and DAY)", () -> {
            Due.is("0 on DAY 0", Due.desks(PAIRS).who(0, 1), 0);
            WavingDesks x = Due.desks(EdgesOfTerms.clerks(8).replace("0 0 0", "0 1 0") + "secret 1 0 0;tells 0;");
            x.see(0, 7, 99, true);
            Due.is("7 on DAY 0", x.who(0, 1), 700);
            x.see(0, 7, 19, false);
            Due.is("7 on DAY 20", x.who(0, 1), 720);
            // 1 on DAY 5 is ahead of 2 on DAY 0
            WavingDesks y = Due.desks("clerk 0 0 0;clerk 1 0 0;clerk 1 0 0;line 2 1 5;secret 1 0 0;");
            y.see(0, 1, 4, false);
            y.see(0, 1, 5, true);
            Due.is("the lesser AGENT", y.who(0, 1), 105);
            Due.is("both", y.who(0, 0), 2);
        });
        says("whether it is so without (1)", () -> {
            WavingDesks x = Due.desks(PAIRS);
            Due.is("nothing SEEN", x.who(0, 2), 1);
            x.see(0, 1, 4, true);
            Due.is("so", x.who(0, 2), 1);
            x.see(1, 3, 2, true);
            Due.is("so", x.who(0, 2), 1);
            x.see(1, 3, 1, true);
            Due.is("not so", x.who(0, 2), 0);
            Due.is("not so, of the other SECRET either", x.who(1, 2), 0);
            x.plant(1, 3, 1);
            Due.is("so, as it is PLANTED", x.who(0, 2), 1);
        });
    }

    private static void game(String text, int resting, int first) {
        WavingDesks x = Due.desks(text);
        Due.is("how many of " + text, x.game(0), resting);
        Due.is("the first of " + text, x.game(1), first);
    }

    private static void choices() {
        says("A GAME: each SIDE has one BURNT who sits on it", () -> {
            // nothing leaks: each choice rests with each
            game("clerk 0 0 0;clerk 0 1 0;clerk 1 0 0;", 6, 0);
            game("clerk 0 0 0;clerk 0 1 0;clerk 0 0 0;", 4, 0);
            // its own SECRET leaks by 0, who sits on the other SIDE: it can't help it
            game("clerk 1 0 0;clerk 1 1 0;line 0 1 1;secret 5 0 0;", 1, 0);
            game("clerk 0 0 0;clerk 0 1 0;line 0 1 1;secret 5 0 0;", 2, 10);
            WavingDesks x = Due.desks("clerk 1 0 0;clerk 1 1 0;line 0 1 1;secret 5 0 0;tells 1;");
            x.move(0);
            Due.is("he sits on it now", x.game(1), 10);
            x.burn(0, true);
            Due.is("who is BURNT already is one more choice", x.game(0), 4);
        });
        says("(an unmoved one sits on both)", () -> {
            game("unmoved 0 0 0;", 4, 0);
            game("unmoved 1 0 0;", 4, 0);
            // the one SIDE's own leaks by the unmoved one, wherever he sits
            game("clerk 1 0 0;unmoved 1 0 0;clerk 1 1 0;line 0 1 1;line 1 2 1;secret 5 0 0;", 4, 20);
            game("clerk 1 0 0;unmoved 0 0 0;clerk 1 1 0;line 0 1 1;line 1 2 1;secret 5 0 0;", 4, 20);
            game("clerk 0 1 0;unmoved 0 1 0;clerk 0 0 0;line 0 1 1;line 1 2 1;secret 5 1 0;", 4, 2);
        });
        says("or nobody", () -> {
            game("", 1, 0);
            game("clerk 0 0 0;", 2, 0);
            game("clerk 1 0 0;", 2, 0);
            // the other SIDE's leaks by 0 and 1, who sit here: nobody is best
            game("clerk 0 1 0;clerk 0 0 0;line 0 1 1;secret 5 1 0;", 1, 0);
        });
    }

    private static void gains() {
        says("it gains WORTH of the other one's SECRETS that LEAK then, and loses that of its own.", () -> {
            // of SIDE 0 burning 0 saves 5 of its own; burning 1 saves 9, and the other one's doesn't leak to him
            String rest = "clerk 0 0 0;clerk 0 0 0;clerk 1 1 0;clerk 0 1 0;line 0 2 1;line 1 2 1;line 3 1 1;"
                + "secret 5 0 0;secret 9 0 1;tells 1;secret ";
            game(rest + "3 1 3;", 1, 20);
            game(rest + "4 1 3;", 2, 10);
            game(rest + "5 1 3;", 1, 10);
            // the same with SIDES changed
            String other = "clerk 1 1 0;clerk 1 1 0;clerk 0 0 0;clerk 1 0 0;line 0 2 1;line 1 2 1;line 3 1 1;"
                + "secret 5 1 0;secret 9 1 1;tells 1;secret ";
            game(other + "3 0 3;", 1, 2);
            game(other + "4 0 3;", 2, 1);
            game(other + "5 0 3;", 1, 1);
        });
        says("A couple RESTS, if neither gains more by another choice", () -> {
            game("clerk 0 0 0;clerk 0 0 0;", 3, 0);
            // with WORTH 0 all is alike, with 1 it is not
            game("clerk 0 0 0;clerk 0 1 0;line 0 1 1;secret 0 0 0;", 3, 0);
            game("clerk 0 0 0;clerk 0 1 0;line 0 1 1;secret 1 0 0;", 2, 10);
            // each would have it otherwise
            game("double 1 1 0;clerk 1 0 0;clerk 0 1 0;line 1 2 1;line 2 1 1;line 1 0 2;line 0 2 3;"
                + "secret 2 0 1;secret 3 1 0;tells 1;", 0, -1);
        });
        says("how many; the first (10 by the first SIDE's choice and 1, and the other one's and 1; nobody is NONE).", () -> {
            game(EdgesOfTerms.clerks(8), 9, 0);
            game(EdgesOfTerms.clerks(8).replace("clerk", "unmoved"), 81, 0);
            // 7 alone keeps SIDE 0's own from leaking, 6 alone that of SIDE 1
            game("clerk 1 0 0;clerk 1 1 0;clerk 0 1 0;clerk 0 0 0;clerk 0 0 0;clerk 0 0 0;clerk 1 1 0;clerk 0 0 0;"
                + "line 0 7 1;line 7 1 1;line 2 6 1;line 6 3 1;secret 5 0 0;secret 5 1 2;tells 1;", 1, 87);
        });
    }

    private static int next(int seed) {
        return (int) ((seed & 0xffffffffL) * 1103515245L + 12345L);
    }

    private static int draw(int seed, int n) {
        return (int) ((seed & 0xffffffffL) / 65536 % 32768) % n;
    }

    /** What the draw of a YEAR does, as an ACT. */
    private static void live(WavingDesks y, int agent, int what) {
        if (what == 0) {
            y.turn(agent);
        } else if (what == 1) {
            y.move(agent);
        } else if (what == 2) {
            y.burn(agent, y.agent(agent, 5) == 0);
        }
    }

    /** So many agents of all kinds in a ring, with SECRETS that LEAK by some. */
    private static String ring(int agents) {
        String[] kinds = {"clerk", "unmoved", "chief", "double", "codist", "clerk", "unmoved", "clerk"};
        StringBuilder s = new StringBuilder();
        for (int i = 0; i < agents; i++) {
            s.append(kinds[i]).append(' ').append(i / 2 % 2).append(' ').append(i % 2).append(" 0;");
        }
        for (int i = 0; i < agents && agents > 1; i++) {
            s.append("line ").append(i).append(' ').append((i + 1) % agents).append(" 1;");
        }
        for (int i = 0; i < Math.min(agents, 4); i++) {
            s.append("secret ").append(1 << i).append(' ').append(i % 2).append(' ').append(agents - 1 - i).append(';');
        }
        return s.append("tells same and not worth<day;").toString();
    }

    private static void years() {
        says("YEARS by a seed: n YEARS (0 to 40)", () -> {
            WavingDesks x = Due.desks("clerk 0 0 0;");
            for (int n = 0; n <= 40; n++) {
                Due.is(n + " YEARS without a leak", x.years(5, n, 2), n);
            }
            Due.illegal("41", () -> x.years(5, 41, 2));
            Due.illegal("-1", () -> x.years(5, -1, 2));
            Due.is("0 YEARS", x.years(5, 0, 0) + x.years(5, 0, 1) + x.years(5, 0, 2), 0);
        });
        says("in each a DRAW of AGENTS, then a DRAW of 4", () -> oneYear());
        says("0 he is TURNED, 1 he MOVES (an unmoved one doesn't), 2 he is BURNT, or not any more, 3 nothing", () -> {
            oneYear();
            // one who is BURNT already is so not any more
            WavingDesks x = Due.desks("clerk 0 0 0;clerk 0 1 0;line 0 1 1;secret 6 0 0;");
            x.burn(0, true);
            for (int seed = 0; seed < 64; seed++) {
                int agent = draw(next(seed), 2);
                int what = draw(next(next(seed)), 4);
                boolean leaks = agent == 0 && (what == 0 || what == 2);
                Due.is("years(" + seed + ", 1, 0)", x.years(seed, 1, 0), leaks ? 6 : 0);
            }
        });
        says("(one YEAR upon the other)", () -> manyYears(0));
        says("WORTH of SECRETS that LEAK then, of all YEARS together; the least of one; in how many YEARS none has.", () -> {
            manyYears(0);
            manyYears(1);
            manyYears(2);
            // a SECRET without WORTH leaks, too
            WavingDesks x = Due.desks("unmoved 0 0 0;secret 0 1 0;");
            int quiet = 0;
            int his = 0;
            int seed = 11;
            for (int year = 0; year < 40; year++) {
                seed = next(next(seed));
                his = draw(seed, 4) == 0 ? 1 - his : his;
                quiet += his;
            }
            Due.is("YEARS in which he is of the other one", x.years(11, 40, 2), quiet);
            Due.is("WORTH", x.years(11, 40, 0), 0);
        });
    }

    /** Each AGENT and each draw of 4, by a seed that gives them. */
    private static void oneYear() {
        for (int agents = 1; agents <= 8; agents++) {
            boolean[] had = new boolean[agents * 4];
            int left = had.length;
            for (int seed = 0; seed < 4000 && left > 0; seed++) {
                int agent = draw(next(seed), agents);
                int what = draw(next(next(seed)), 4);
                if (!had[agent * 4 + what]) {
                    had[agent * 4 + what] = true;
                    left--;
                    WavingDesks x = Due.desks(ring(agents));
                    WavingDesks y = Due.desks(ring(agents));
                    live(y, agent, what);
                    Due.is("one YEAR of " + agents + " with " + agent + " and " + what, x.years(seed, 1, 0), y.count(8));
                    Due.is("none has", x.years(seed, 1, 2), y.count(7) == 0 ? 1 : 0);
                }
            }
            Due.is("seeds are found for all of " + agents, left, 0);
        }
    }

    private static void manyYears(int what) {
        for (int agents = 1; agents <= 8; agents++) {
            for (int first : SEEDS) {
                WavingDesks x = Due.desks(ring(agents));
                WavingDesks y = Due.desks(ring(agents));
                int seed = first;
                int[] due = {0, 0, 0};
                for (int year = 1; year <= 40; year++) {
                    seed = next(seed);
                    int agent = draw(seed, agents);
                    seed = next(seed);
                    live(y, agent, draw(seed, 4));
                    int worth = y.count(8);
                    due[0] += worth;
                    due[1] = year == 1 ? worth : Math.min(due[1], worth);
                    due[2] += y.count(7) == 0 ? 1 : 0;
                    if (year < 4 || year == 40) {
                        Due.is("years(" + first + ", " + year + ", " + what + ") of " + agents,
                            x.years(first, year, what), due[what]);
                    }
                }
            }
        }
    }

    private static void draws() {
        says("A seed becomes itself times 1103515245 and 12345 (an int that wraps)", () -> {
            Due.is("of 0", next(0), 12345);
            Due.is("of 1", next(1), 1103527590);
            Due.is("of -1", next(-1), -1103502900);
            manyYears(0);
        });
        says("a DRAW of n is its bits 16 to 30 MOD n then.", () -> {
            Due.is("all bits", draw(-1, 100000), 32767);
            Due.is("bit 31", draw(-2147483648, 4), 0);
            Due.is("bit 15", draw(65535, 4), 0);
            Due.is("bit 30", draw(1 << 30, 100000), 16384);
            // among seeds whose next one is below 0 there are all: bit 31 doesn't count
            int below = 0;
            WavingDesks x = Due.desks("clerk 0 0 0;clerk 0 1 1;clerk 0 1 1;line 1 0 1;line 2 0 1;secret 1 0 1;secret 2 0 2;secret 4 0 0;");
            for (int seed = 0; seed < 100; seed++) {
                int one = next(seed);
                int other = next(one);
                below += one < 0 && other < 0 ? 1 : 0;
                int agent = draw(one, 3);
                boolean turned = draw(other, 4) == 0;
                // 0 is not of the other SIDE and knows all; 1 and 2 know their own
                int due = turned && agent == 0 ? 7 : turned ? 3 - agent : 3;
                Due.is("years(" + seed + ", 1, 0)", x.years(seed, 1, 0), due);
            }
            Due.is("some are below 0", below > 10, true);
        });
        says("(Without AGENTS nothing is drawn.)", () -> {
            WavingDesks x = new WavingDesks();
            for (int seed : SEEDS) {
                Due.is("WORTH", x.years(seed, 40, 0), 0);
                Due.is("the least", x.years(seed, 40, 1), 0);
                Due.is("in all none has", x.years(seed, 40, 2), 40);
                Due.is("nor in none", x.years(seed, 0, 2), 0);
            }
        });
    }

    private static void status() {
        says("STATUS: how many calls were refused: 0 TEXTS with a FAULT, 1 ACTS, 2 what is SEEN.", () -> {
            WavingDesks x = Due.desks("unmoved 0 0 0;clerk 0 0 0;line 0 1 1;secret 1 0 0;");
            for (int i = 1; i <= 20; i++) {
                Due.tell(x, "?");
                x.move(0);
                x.see(0, 0, -1, true);
                Due.is("TEXTS", x.count(13), i);
                Due.is("ACTS", x.count(14), i);
                Due.is("SEEN", x.count(15), i);
            }
            // what isn't there, is not so or is thrown is not counted
            x.undo();
            x.restore();
            Due.noSuch("turn(2)", () -> x.turn(2));
            Due.noSuch("see(1, 0, 0)", () -> x.see(1, 0, 0, true));
            Due.illegal("offices(-1)", () -> x.offices(-1));
            Due.is("TEXTS", x.count(13), 20);
            Due.is("ACTS", x.count(14), 20);
            Due.is("SEEN", x.count(15), 20);
        });
        says("The constants: `NONE = -1`: There is none.", () -> Due.is("NONE", WavingDesks.NONE, -1));
    }

    private static void image() {
        says("AN IMAGE keeps whose all are, SIDES, who is BURNT, what is cut, PLANTED, ACTS that are kept, what is SEEN, STATUS.", () -> {
            // what comes behind the image and is undone by it is as if it had not been
            Twins.Make kept = () -> {
                WavingDesks x = Twins.BUSY.make();
                x.image();
                return x;
            };
            Twins.Use otherwise = x -> {
                for (int i = 0; i < 5; i++) {
                    x.undo();
                }
                for (int a = 0; a < 5; a++) {
                    x.turn(a);
                    x.move(a);
                    x.burn(a, true);
                    x.cut(a, true);
                }
                x.plant(0, 3, 2);
                x.plant(1, 2, 4);
                x.forget();
                x.see(1, 1, 1, true);
                x.see(1, 1, 100, true);
                x.plant(1, 1, 61);
                return x.restore();
            };
            Twins.nothingChanges("restore()", kept, otherwise, true);
            Twins.Make full = () -> {
                WavingDesks x = Twins.FULL.make();
                x.image();
                return x;
            };
            Twins.Use pushedOut = x -> {
                for (int i = 0; i < 45; i++) {
                    x.move(i % 2);
                }
                return x.restore();
            };
            Twins.nothingChanges("restore() of 40 ACTS", full, pushedOut, true);
        });
    }
}
