/** Promises 18 to 26, 28, 30, 31: what would be if, and what these calls refuse. */
final class EdgesOfImagining {
    private static final String NO_SUCH = "NoSuchElementException";
    private static final String ILLEGAL = "IllegalArgumentException";

    private EdgesOfImagining() {
    }

    static void run() {
        silenceAndMatters();
        dearest();
        heard();
        more();
        wordAndExchange();
        wavesAndFarthest();
        who();
        game();
        years();
        askedOnly();
    }

    private static void says(int promise, String words, Runnable test) {
        Due.says("Promise " + promise, words, test);
    }

    private static void silenceAndMatters() {
        says(18, "TO SILENCE, as bits; NONE: none.", () -> {
            StringBuilder row = new StringBuilder(EdgesOfTerms.clerks(8) + "secret 1 0 0;");
            for (int i = 0; i < 7; i++) {
                row.append("line ").append(i).append(' ').append(i + 1).append(" 1;");
            }
            WavingDesks x = Due.desks(row.toString());
            Due.is("the least of six", x.silence(0, 7), 2);
            for (int i = 1; i <= 5; i++) {
                x.plant(0, i, 0);
                Due.is("PLANTED with " + i, x.silence(0, 7), i < 5 ? 2 << i : 32);
            }
            Due.is("none", x.silence(0, 5), -1);
            Due.is("nobody is needed", Due.desks(EdgesOfTerms.clerks(2) + "secret 1 0 0;").silence(0, 1), 0);
        });
        says(19, "WHAT A LINE MATTERS (below 0: it would be more).", () -> {
            WavingDesks x = Due.desks("clerk 0 0 0;clerk 0 0 0;clerk 0 1 0;chief 0 0 0;"
                + "line 0 1 1;line 0 3 1;line 3 1 2;line 1 2 1;secret 9 0 0;secret 9 0 0;tells day=0 or from=1 or day=3;");
            Due.is("below 0", x.matters(0), -18);
            Due.is("0", x.matters(3), 0);
            x.cut(0, true);
            Due.is("above 0", x.matters(3), 18);
        });
    }

    private static void dearest() {
        says(20, "The LINE that MATTERS most (of like ones the least)", () -> {
            WavingDesks x = Due.desks("clerk 0 0 0;clerk 0 0 0;clerk 0 1 0;line 0 1 1;line 1 2 1;secret 4 0 0;secret 1 0 1;");
            Due.is("the second", x.dearest(), 1);
            x.cut(1, true);
            Due.is("neither matters: the first", x.dearest(), 0);
            WavingDesks y = Due.desks("clerk 0 0 0;clerk 0 0 0;clerk 0 1 0;line 0 1 1;line 1 2 1;secret 4 0 0;");
            Due.is("both alike: the first", y.dearest(), 0);
            WavingDesks z = Due.desks("clerk 0 0 0;clerk 0 0 0;clerk 0 1 0;chief 0 0 0;"
                + "line 0 1 1;line 0 3 1;line 3 1 2;line 1 2 1;secret 7 0 0;tells day=0 or from=1 or day=3;");
            Due.is("0 is more than below 0", z.dearest(), 1);
            StringBuilder many = new StringBuilder(EdgesOfTerms.clerks(7) + "clerk 0 1 0;secret 1 0 0;");
            for (int i = 0; i < 15; i++) {
                many.append("line ").append(i / 6).append(' ').append(i % 6 < i / 6 ? i % 6 : i % 6 + 1).append(" 1;");
            }
            Due.is("the last of 16", Due.desks(many + "line 2 7 1;").dearest(), 15);
        });
        says(20, "NONE: there are none.", () -> {
            Due.is("nobody", new WavingDesks().dearest(), -1);
            Due.is("no LINES", Due.desks(EdgesOfTerms.clerks(8) + "secret 1 1 0;").dearest(), -1);
            Due.is("one LINE that doesn't matter", Due.desks(EdgesOfTerms.clerks(2) + "line 0 1 1;").dearest(), 0);
            WavingDesks x = Due.desks(EdgesOfTerms.clerks(2) + "line 0 1 1;secret 1 0 0;");
            x.cut(0, true);
            Due.is("one LINE that is cut", x.dearest(), 0);
        });
    }

    private static void heard() {
        says(21, "SECRETS that an AGENT knows by a DAY, as bits.", () -> {
            WavingDesks x = Due.desks("clerk 0 0 0;clerk 0 0 0;line 0 1 3;" + "secret 1 0 0;".repeat(5) + "secret 1 0 1;");
            Due.is("the least DAY", x.heard(1, Integer.MIN_VALUE), 0);
            Due.is("DAY -1", x.heard(1, -1), 0);
            Due.is("DAY 0", x.heard(1, 0), 32);
            Due.is("DAY 2", x.heard(1, 2), 32);
            Due.is("DAY 3", x.heard(1, 3), 63);
            Due.is("the most", x.heard(1, Integer.MAX_VALUE), 63);
            Due.is("one who doesn't hear", x.heard(0, Integer.MAX_VALUE), 31);
        });
    }

    private static void more() {
        says(22, "ONE MORE LINE.", () -> {
            WavingDesks x = Due.desks(EdgesOfTerms.clerks(8) + "secret 1 0 7;");
            Due.is("from the last to the first", x.more(7, 0), 1);
            Due.is("from the first to the last", x.more(0, 7), 0);
        });
        says(22, "IllegalArgumentException (behind NoSuchElementException): both are one.", () -> {
            Refused.each(ILLEGAL, "more of one", Twins.BUSY, (x, n) -> x.more(n, n), 0, 1, 2, 3, 4);
            Refused.each(NO_SUCH, "more of one who isn't there", Twins.BUSY, (x, n) -> x.more(n, n), -1, 5, 8,
                Integer.MIN_VALUE, Integer.MAX_VALUE);
            Refused.each(NO_SUCH, "more of one who isn't there", Twins.NEW, (x, n) -> x.more(n, n), -1, 0);
        });
    }

    private static void wordAndExchange() {
        says(23, "A WORD.", () -> {
            WavingDesks x = Due.desks(EdgesOfTerms.clerks(8) + EdgesOfTerms.lines(7) + "secret 1 0 0;secret 1 0 7;");
            Due.is("the first's", x.word(0), 7);
            Due.is("the last's", x.word(7), 1);
        });
        says(24, "EXCHANGE: how much (what 0), FAMILIES as bits (1).", () -> {
            WavingDesks x = Due.desks("clerk 0 1 3;clerk 0 1 3;clerk 1 1 2;");
            Due.is("how much", x.exchange(0), 3);
            Due.is("FAMILIES", x.exchange(1), 8);
        });
        says(24, "NoSuchElementException: another what.", () -> {
            Refused.what(1, "exchange", WavingDesks::exchange);
            Refused.each(NO_SUCH, "exchange", Twins.NEW, WavingDesks::exchange, -1, 2);
        });
    }

    private static void wavesAndFarthest() {
        says(25, "WAVES.", () -> {
            WavingDesks x = Due.desks("clerk 0 0 0;clerk 1 0 0;secret 1 0 0;");
            Due.is("on DAY -1", x.waves(-1), 1);
            Due.is("on DAY 0", x.waves(0), 0);
        });
        says(26, "THE FARTHEST; NONE: nobody knows anything.", () -> {
            Due.is("nobody", new WavingDesks().farthest(), -1);
            Due.is("nothing", Due.desks(EdgesOfTerms.clerks(2) + "line 0 1 1;").farthest(), -1);
            WavingDesks x = Due.desks(EdgesOfTerms.clerks(2) + "line 0 1 1;secret 1 0 0;");
            Due.is("DAY 1", x.farthest(), 1);
            x.burn(0, true);
            Due.is("DAY 0", x.farthest(), 0);
        });
    }

    private static void who() {
        says(28, "WHO ELSE told it: how many (what 0), the first (1; NONE: none), whether without (2).", () -> {
            WavingDesks x = Due.desks("clerk 0 0 0;clerk 1 0 0;secret 1 0 0;");
            Due.is("all", x.who(0, 0) + " " + x.who(0, 1) + " " + x.who(0, 2), "42 0 1");
            x.see(0, 1, 3, true);
            Due.is("some", x.who(0, 0) + " " + x.who(0, 1) + " " + x.who(0, 2), "4 100 0");
            x.see(0, 1, 3, false);
            Due.is("none", x.who(0, 0) + " " + x.who(0, 1) + " " + x.who(0, 2), "0 -1 0");
        });
        says(28, "NoSuchElementException: also another what.", () -> {
            Refused.what(2, "who", (x, n) -> x.who(0, n));
            Refused.what(2, "who", (x, n) -> x.who(2, n));
        });
    }

    private static void game() {
        says(30, "A GAME: how many couples rest (what 0), the first (1; NONE: none rests).", () -> {
            Due.is("nobody", new WavingDesks().game(0) + " " + new WavingDesks().game(1), "1 0");
            WavingDesks x = Due.desks("double 1 1 0;clerk 1 0 0;clerk 0 1 0;"
                + "line 1 2 1;line 2 1 1;line 1 0 2;line 0 2 3;secret 2 0 1;secret 3 1 0;tells 1;");
            Due.is("none", x.game(0) + " " + x.game(1), "0 -1");
            x.burn(0, true);
            x.burn(1, true);
            x.burn(2, true);
            Due.is("all", x.game(0) + " " + x.game(1), "6 0");
        });
        says(30, "NoSuchElementException: another what.", () -> {
            Refused.what(1, "game", WavingDesks::game);
            Refused.each(NO_SUCH, "game", Twins.NEW, WavingDesks::game, -1, 2);
        });
    }

    private static void years() {
        says(31, "YEARS: WORTH (what 0), the least (1; 0 without YEARS), YEARS (2).", () -> {
            // of two unmoved ones, one of each side, the SECRET is known to one who is not of its side, turned or not
            WavingDesks x = Due.desks("unmoved 0 0 0;secret 7 1 0;secret 7 0 0;");
            Due.is("WORTH", x.years(1, 40, 0), 280);
            Due.is("the least", x.years(1, 40, 1), 7);
            Due.is("YEARS", x.years(1, 40, 2), 0);
            Due.is("without YEARS", x.years(1, 0, 0) + " " + x.years(1, 0, 1) + " " + x.years(1, 0, 2), "0 0 0");
            Due.is("one YEAR", x.years(1, 1, 0) + " " + x.years(1, 1, 1) + " " + x.years(1, 1, 2), "7 7 0");
        });
        says(31, "NoSuchElementException: another what.", () -> {
            Refused.what(2, "years", (x, n) -> x.years(1, 1, n));
            Refused.each(NO_SUCH, "years, n too much", Twins.BUSY, (x, n) -> x.years(1, 41, n), -1, 3);
            Refused.each(NO_SUCH, "years, n below 0", Twins.NEW, (x, n) -> x.years(1, -1, n), -1, 3);
        });
        says(31, "IllegalArgumentException (behind that): n.", () -> {
            int[] wrong = {Integer.MIN_VALUE, -1, 41, 42, Integer.MAX_VALUE};
            for (int what = 0; what < 3; what++) {
                int asked = what;
                Refused.each(ILLEGAL, "years", Twins.BUSY, (x, n) -> x.years(1, n, asked), wrong);
                Refused.each(ILLEGAL, "years", Twins.NEW, (x, n) -> x.years(1, n, asked), wrong);
                Due.is("0 and 40 are taken", Due.answer(() -> Twins.BUSY.make().years(1, 0, asked)) instanceof Integer
                    && Due.answer(() -> Twins.BUSY.make().years(1, 40, asked)) instanceof Integer, true);
            }
        });
    }

    /** Who is only asked is as before. */
    private static void askedOnly() {
        Twins.Use asked = x -> {
            for (int what = 0; what < 2; what++) {
                x.game(what);
                x.who(0, what);
                x.years(9, 40, what);
                x.exchange(what);
                x.knows(0, 1, what);
                x.known(what, 5);
            }
            x.who(0, 2);
            x.years(9, 40, 2);
            x.silence(0, 1);
            x.matters(0);
            x.dearest();
            x.more(0, 2);
            x.word(0);
            x.waves(3);
            x.heard(0, 3);
            x.farthest();
            x.chain(0, 0, 0);
            x.fault();
            return x.agent(0, 0);
        };
        Twins.nothingChanges("all asked", Twins.BUSY, asked, 0);
        Twins.nothingChanges("all asked", Twins.FULL, asked, 0);
    }
}
