/** Part 3: to silence, what a LINE matters, one more LINE, a WORD, an EXCHANGE, what is KNOWN, WAVES, CHAINS, THE FARTHEST. */
final class EdgesOfWhatIf {
    // 0 tells 1 and 2; 1, 2 tell 3; 3 tells 4
    private static final String TWO_WAYS = EdgesOfTerms.clerks(5)
        + "line 0 1 1;line 0 2 2;line 1 3 1;line 2 3 1;line 3 4 1;secret 6 0 0;";

    private EdgesOfWhatIf() {
    }

    static void run() {
        allElse();
        silence();
        silenceWhom();
        matters();
        more();
        word();
        exchange();
        known();
        waves();
        chain();
        farthest();
    }

    private static void says(String words, Runnable test) {
        Due.says("3", words, test);
    }

    private static void allElse() {
        says("(All else as it is.)", () -> {
            Twins.Use asked = x -> {
                x.silence(0, 2);
                x.matters(0);
                x.dearest();
                x.more(0, 3);
                x.word(0);
                x.exchange(0);
                return x.exchange(1) >= 0;
            };
            Twins.nothingChanges("what would be if", Twins.BUSY, asked, true);
            // what is burnt, cut, moved and planted already counts
            WavingDesks x = Due.desks(TWO_WAYS + "clerk 0 1 0;line 4 5 1;");
            Due.is("the last line", x.matters(5), 6);
            x.burn(1, true);
            Due.is("with one burnt", x.matters(1), 6);
            x.cut(1, true);
            Due.is("with one cut", x.matters(5), 0);
            x.plant(0, 3, 1);
            Due.is("with one planted", x.matters(4), 6);
            x.move(4);
            Due.is("with one moved", x.matters(4), 0);
        });
    }

    private static void silence() {
        says("TO SILENCE: the fewest AGENTS more to be BURNT so that an AGENT never knows a SECRET", () -> {
            WavingDesks x = Due.desks(TWO_WAYS);
            Due.is("both ways", x.silence(0, 3), 6);
            Due.is("one rather than two, though more as bits", x.silence(0, 4), 8);
            x.cut(4, true);
            Due.is("nobody is needed", x.silence(0, 4), 0);
            StringBuilder six = new StringBuilder(EdgesOfTerms.clerks(8) + "secret 1 0 0;");
            for (int i = 1; i < 7; i++) {
                six.append("line 0 ").append(i).append(" 1;line ").append(i).append(" 7 ").append(i).append(";");
            }
            Due.is("six, one for each way", Due.desks(six.toString()).silence(0, 7), 126);
            // by burning 4, 1 hears it on another DAY and tells it: 4 alone doesn't do
            WavingDesks y = Due.desks("clerk 0 0 0;clerk 0 0 0;clerk 0 0 0;chief 0 0 0;clerk 0 0 0;"
                + "line 0 4 1;line 4 1 1;line 0 3 1;line 3 1 2;line 1 2 1;line 4 2 9;secret 1 0 0;tells not day=2;");
            Due.is("by 4, late", y.knows(0, 2, 1), 4);
            Due.is("1 and 4 (3 and 4 too)", y.silence(0, 2), 18);
        });
        says("of as few the least as bits", () -> {
            WavingDesks x = Due.desks(EdgesOfTerms.clerks(5) + "line 4 3 1;line 3 2 1;line 2 1 1;line 1 0 1;secret 1 0 4;");
            Due.is("any of three would do", x.silence(0, 0), 2);
            x.burn(1, true);
            Due.is("nobody is needed", x.silence(0, 0), 0);
            Due.is("the last but one", x.silence(0, 2), 8);
            Due.is("the first AGENT, who is 1 as bits",
                Due.desks(EdgesOfTerms.clerks(3) + "line 1 0 1;line 0 2 1;secret 1 0 1;").silence(0, 2), 1);
            Due.is("the last AGENT, who is 128",
                Due.desks(EdgesOfTerms.clerks(8) + "line 1 7 1;line 7 2 1;secret 1 0 1;").silence(0, 2), 128);
        });
        says("none (also if he knows it by himself)", () -> {
            WavingDesks x = Due.desks(TWO_WAYS);
            Due.is("straight from the SOURCE", x.silence(0, 1), -1);
            Due.is("the SOURCE", x.silence(0, 0), -1);
            x.burn(0, true);
            Due.is("the SOURCE, BURNT", x.silence(0, 0), -1);
            Due.is("who never knows it", x.silence(0, 4), 0);
            x.plant(0, 4, 60);
            Due.is("with whom it is PLANTED", x.silence(0, 4), -1);
            x.burn(4, true);
            Due.is("the same, BURNT", x.silence(0, 4), -1);
            WavingDesks y = Due.desks(TWO_WAYS);
            y.plant(0, 4, 60);
            Due.is("with whom it is PLANTED later than he hears it", y.silence(0, 4), -1);
        });
    }

    private static void silenceWhom() {
        says("(not him", () -> {
            Due.is("he alone could be", Due.desks(EdgesOfTerms.clerks(2) + "line 0 1 1;secret 1 0 0;").silence(0, 1), -1);
            WavingDesks x = Due.desks(EdgesOfTerms.clerks(3) + "line 2 1 1;line 1 0 1;secret 1 0 2;");
            Due.is("not 0 himself, though less as bits", x.silence(0, 0), 2);
        });
        says("nor who knows it by himself", () -> {
            WavingDesks x = Due.desks(EdgesOfTerms.clerks(4) + "line 0 1 1;line 1 2 1;line 2 3 1;secret 1 0 0;");
            Due.is("not 0, though less as bits", x.silence(0, 2), 2);
            x.plant(0, 1, 1);
            Due.is("nor 1, with whom it is PLANTED on that DAY", x.silence(0, 2), -1);
            Due.is("but 2", x.silence(0, 3), 4);
            x.undo();
            x.plant(0, 1, 2);
            Due.is("1 hears it sooner", x.silence(0, 2), 2);
        });
        says("none who is BURNT)", () -> {
            WavingDesks x = Due.desks(TWO_WAYS);
            x.burn(1, true);
            Due.is("2 more", x.silence(0, 3), 4);
            x.burn(2, true);
            Due.is("none more", x.silence(0, 3), 0);
        });
    }

    private static void matters() {
        says("WHAT A LINE MATTERS: by how much WORTH of all LEAKED SECRETS together would be less, were it cut", () -> {
            WavingDesks x = Due.desks("clerk 0 0 0;clerk 0 0 0;clerk 0 1 0;line 0 1 1;line 1 2 1;line 0 2 9;"
                + "secret 4 0 0;secret 9 0 1;secret 3 1 0;secret 0 0 1;");
            Due.is("none: there are two ways", x.matters(0), 0);
            Due.is("the second's WORTH", x.matters(1), 9);
            Due.is("none", x.matters(2), 0);
            x.cut(2, true);
            Due.is("the first's", x.matters(0), 4);
            Due.is("both together, not the third, which leaks still", x.matters(1), 13);
            // on another DAY 1 tells it: it would be more
            WavingDesks y = Due.desks("clerk 0 0 0;clerk 0 0 0;clerk 0 1 0;chief 0 0 0;"
                + "line 0 1 1;line 0 3 1;line 3 1 2;line 1 2 1;secret 7 0 0;tells day=0 or from=1 or day=3;");
            Due.is("more", y.matters(0), -7);
        });
        says("(0, if it is)", () -> {
            WavingDesks x = Due.desks("clerk 0 0 0;clerk 0 1 0;line 0 1 1;secret 4 0 0;");
            Due.is("not cut", x.matters(0), 4);
            x.cut(0, true);
            Due.is("cut", x.matters(0), 0);
            // mended it would be less or more; asked as cut it is neither
            WavingDesks y = Due.desks("clerk 0 0 0;clerk 0 0 0;clerk 0 1 0;chief 0 0 0;"
                + "line 0 1 1;line 0 3 1;line 3 1 2;line 1 2 1;secret 7 0 0;tells day=0 or from=1 or day=3;");
            y.cut(0, true);
            Due.is("cut", y.matters(0), 0);
        });
    }

    private static void more() {
        says("ONE MORE LINE of 1 DAY from an AGENT to another one", () -> {
            String rule = "tells day=0 or day=1;";
            Due.is("the other one knows it on DAY 1, and tells it",
                Due.desks(EdgesOfTerms.clerks(3) + "line 1 2 1;secret 1 0 0;" + rule).more(0, 1), 2);
            Due.is("a codist: on DAY 2",
                Due.desks("codist 0 0 0;clerk 0 0 0;clerk 0 0 0;line 1 2 1;secret 1 0 0;" + rule).more(0, 1), 1);
            Due.is("a chief: on DAY 1",
                Due.desks("clerk 0 0 0;chief 0 0 0;clerk 0 0 0;line 1 2 1;secret 1 0 0;" + rule).more(0, 1), 2);
            Due.is("the rule counts", Due.desks(EdgesOfTerms.clerks(2) + "secret 1 0 0;tells 0;").more(0, 1), 0);
            Due.is("beside 16", Due.desks(EdgesOfTerms.clerks(8) + EdgesOfTerms.lines(16) + "secret 1 0 3;").more(3, 7), 1);
        });
        says("(though there be one)", () -> {
            String three = EdgesOfTerms.clerks(3) + "line 0 1 9;line 1 2 1;secret 1 0 0;";
            Due.is("like it", Due.desks(three).more(0, 1), 0);
            Due.is("sooner by it", Due.desks(three + "tells day=0 or day=1;").more(0, 1), 1);
            WavingDesks x = Due.desks(three);
            x.cut(0, true);
            Due.is("one that is cut", x.more(0, 1), 2);
        });
        says("how many couples more there would be", () -> {
            WavingDesks x = Due.desks(EdgesOfTerms.clerks(4) + "line 1 2 1;secret 1 0 0;secret 1 0 0;secret 1 0 1;");
            Due.is("two SECRETS to two", x.more(0, 1), 4);
            Due.is("one to one", x.more(1, 0), 1);
            Due.is("from who knows nothing", x.more(3, 0), 0);
            x.burn(1, true);
            Due.is("to who is BURNT", x.more(0, 1), 0);
            Due.is("from who is BURNT", x.more(1, 0), 0);
            Due.is("fewer, by who hears it on a DAY on which he doesn't tell it",
                Due.desks(EdgesOfTerms.clerks(3) + "line 0 1 2;line 1 2 1;secret 1 0 0;tells not day=1;").more(0, 1), -1);
        });
    }

    private static void word() {
        says("A WORD of an AGENT: how many couples of AGENT and SECRET that he ever knows there would be fewer, were he BURNT", () -> {
            WavingDesks x = Due.desks(TWO_WAYS + "secret 1 0 1;secret 1 0 4;");
            Due.is("the SOURCE knows it himself", x.word(0), 4);
            Due.is("1: himself, and 3 and 4 of his own", x.word(1), 3);
            Due.is("3: himself and 4, of two", x.word(3), 4);
            Due.is("4: himself of two, not of his own", x.word(4), 2);
            x.plant(0, 4, 60);
            Due.is("what is planted with 4 he knows", x.word(4), 1);
            // without 4, 1 hears it on DAY 3 and tells it
            WavingDesks y = Due.desks("clerk 0 0 0;clerk 0 0 0;clerk 0 0 0;chief 0 0 0;clerk 0 0 0;clerk 0 0 0;"
                + "line 0 4 1;line 4 1 1;line 0 3 1;line 3 1 2;line 1 2 1;line 2 5 1;secret 1 0 0;"
                + "tells day=0 or day=1 or day=3 or day=4;");
            Due.is("more by one", y.word(4), -1);
        });
        says("(0, if he is)", () -> {
            WavingDesks x = Due.desks(TWO_WAYS);
            Due.is("not BURNT", x.word(3), 2);
            x.burn(3, true);
            Due.is("BURNT", x.word(3), 0);
            x.burn(0, true);
            Due.is("BURNT", x.word(0), 0);
        });
    }

    private static void exchange(String text, int much, int families) {
        WavingDesks x = Due.desks(text);
        Due.is("how much of " + text, x.exchange(0), much);
        Due.is("which of " + text, x.exchange(1), families);
    }

    private static void exchange() {
        says("EXCHANGE: FAMILIES that all move to the other SIDE (unmoved ones don't)", () -> {
            exchange("clerk 0 1 0;clerk 1 0 0;", 2, 1);
            exchange("clerk 0 1 0;clerk 0 0 0;clerk 1 0 0;", 2, 1);
            for (int family = 0; family < 4; family++) {
                exchange("chief 0 1 " + family + ";", 1, 1 << family);
            }
            exchange("clerk 0 1 0;clerk 0 1 1;clerk 1 0 2;clerk 1 0 3;", 4, 15);
            WavingDesks x = Due.desks("clerk 0 0 1;");
            x.move(0);
            Due.is("from where he sits now", x.exchange(1), 2);
            x.turn(0);
            Due.is("and whose he is now", x.exchange(1), 0);
        });
        says("by which most AGENTS sit on the SIDE whose they are (an unmoved one does always)", () -> {
            exchange("clerk 0 1 0;clerk 0 1 0;clerk 0 0 0;", 2, 1);
            exchange("unmoved 0 1 0;unmoved 1 0 0;unmoved 0 0 0;", 3, 0);
            exchange("unmoved 0 1 0;clerk 0 0 0;", 2, 0);
            exchange("unmoved 0 0 0;clerk 0 1 0;", 2, 1);
            exchange(EdgesOfTerms.clerks(8), 8, 0);
        });
        says("less how many GRUDGES are of two who sit on one SIDE then (with an unmoved one always)", () -> {
            exchange("clerk 0 0 0;clerk 1 1 1;grudge 0 1;", 2, 0);
            exchange("clerk 0 0 0;clerk 0 0 1;clerk 0 0 1;grudge 0 1;grudge 0 2;", 2, 1);
            exchange("clerk 0 0 0;clerk 0 0 0;grudge 0 1;", 1, 0);
            exchange("clerk 0 0 0;clerk 1 1 1;clerk 1 1 2;grudge 1 2;", 2, 0);
            exchange("clerk 0 0 0;clerk 1 1 1;clerk 1 1 2;clerk 1 0 2;grudge 2 1;grudge 1 3;", 3, 4);
            exchange("unmoved 0 0 0;clerk 1 1 1;grudge 0 1;", 1, 0);
            exchange("clerk 1 1 1;unmoved 0 0 0;grudge 0 1;", 1, 0);
            exchange("unmoved 0 0 0;unmoved 1 1 1;grudge 0 1;", 1, 0);
            exchange("clerk 0 0 0;clerk 0 0 0;clerk 0 0 0;clerk 0 0 0;"
                + "grudge 0 1;grudge 0 2;grudge 0 3;grudge 1 2;grudge 1 3;grudge 2 3;", -2, 0);
        });
        says("how much; which, as bits (of like ones the least).", () -> {
            exchange("", 0, 0);
            exchange("clerk 0 0 0;clerk 0 1 0;", 1, 0);
            // FAMILY 1 or 2 moves: as much
            exchange("clerk 0 0 1;clerk 0 0 2;clerk 0 1 1;clerk 0 1 2;grudge 0 1;grudge 0 3;grudge 2 1;grudge 2 3;", 2, 2);
        });
    }

    private static void known() {
        says("KNOWN to a SIDE by a DAY: WORTH of SECRETS that an AGENT knows by then who is of it.", () -> {
            WavingDesks x = Due.desks("clerk 0 0 0;clerk 0 0 0;clerk 0 1 0;line 0 1 1;line 0 2 3;"
                + "secret 4 0 0;secret 9 1 2;secret 0 1 2;");
            Due.is("ahead of all", x.known(0, -1), 0);
            Due.is("on DAY 0", x.known(0, 0), 4);
            Due.is("once, though two know it", x.known(0, 1), 4);
            Due.is("the other SIDE by DAY 2", x.known(1, 2), 9);
            Due.is("the other SIDE by DAY 3", x.known(1, 3), 13);
            Due.is("at the least DAY", x.known(1, Integer.MIN_VALUE), 0);
            Due.is("at the most", x.known(1, Integer.MAX_VALUE), 13);
            // HIS counts, not where he sits
            x.move(2);
            Due.is("moved, he doesn't hear it", x.known(1, 3), 9);
            x.turn(2);
            Due.is("nobody is of it", x.known(1, 99), 0);
            Due.is("all are of it", x.known(0, 99), 13);
        });
    }

    private static void waves() {
        says("WAVES on a DAY: couples of AGENTS who sit on unlike SIDES (the lesser first; no unmoved ones)", () -> {
            Due.is("nobody", new WavingDesks().waves(0), 0);
            Due.is("one", Due.desks("clerk 0 0 0;").waves(0), 0);
            Due.is("on one SIDE", Due.desks("clerk 0 0 0;clerk 0 1 0;").waves(0), 0);
            Due.is("once, the lesser first", Due.desks("clerk 0 0 0;clerk 1 0 0;").waves(0), 1);
            Due.is("once, the other way round", Due.desks("clerk 1 0 0;clerk 0 0 0;").waves(0), 1);
            Due.is("unmoved", Due.desks("clerk 0 0 0;unmoved 1 0 0;").waves(0), 0);
            Due.is("unmoved", Due.desks("unmoved 0 0 0;clerk 1 0 0;").waves(0), 0);
            Due.is("unmoved", Due.desks("unmoved 0 0 0;unmoved 1 0 0;").waves(0), 0);
            Due.is("four and four", Due.desks("clerk 0 0 0;chief 1 0 0;codist 0 0 0;double 1 0 0;".repeat(2)).waves(0), 16);
            WavingDesks x = Due.desks("clerk 0 0 0;clerk 1 0 0;");
            x.move(0);
            Due.is("moved", x.waves(0), 0);
            x.move(1);
            Due.is("both moved", x.waves(0), 1);
        });
        says("and know as many SECRETS by then: how many", () -> {
            WavingDesks x = Due.desks("clerk 0 0 0;clerk 1 0 0;clerk 0 0 0;line 0 2 3;secret 1 0 0;secret 1 0 1;");
            Due.is("none knows any", x.waves(-1), 2);
            Due.is("as many, if others", x.waves(0), 1);
            Due.is("by DAY 2", x.waves(2), 1);
            Due.is("by DAY 3", x.waves(3), 2);
            Due.is("at the least DAY", x.waves(Integer.MIN_VALUE), 2);
            Due.is("at the most", x.waves(Integer.MAX_VALUE), 2);
            x.plant(0, 1, 5);
            Due.is("by DAY 4", x.waves(4), 2);
            Due.is("by DAY 5", x.waves(5), 0);
        });
    }

    private static void chain() {
        says("A CHAIN to an AGENT: those by whom a SECRET came to him, from him who knows it by himself to him.", () -> {
            StringBuilder row = new StringBuilder(EdgesOfTerms.clerks(8) + "secret 1 0 7;");
            for (int i = 7; i > 0; i--) {
                row.append("line ").append(i).append(' ').append(i - 1).append(" 9;");
            }
            WavingDesks x = Due.desks(row.toString());
            for (int agent = 0; agent < 8; agent++) {
                Due.is("how many to " + agent, x.knows(0, agent, 2), 8 - agent);
                for (int i = 0; i < 8 - agent; i++) {
                    Due.is("the " + i + "th to " + agent, x.chain(0, agent, i), 7 - i);
                }
            }
            x.plant(0, 3, 1);
            Due.is("from him with whom it is planted", x.knows(0, 0, 2), 4);
            Due.is("the first", x.chain(0, 0, 0), 3);
            Due.is("the last", x.chain(0, 0, 3), 0);
        });
    }

    private static void farthest() {
        says("THE FARTHEST: the last DAY on which some AGENT first knows some SECRET; none.", () -> {
            Due.is("nobody", new WavingDesks().farthest(), -1);
            Due.is("no SECRETS", Due.desks(EdgesOfTerms.clerks(8)).farthest(), -1);
            WavingDesks x = Due.desks(EdgesOfTerms.clerks(3) + "line 0 1 9;line 1 2 9;line 0 2 8;secret 1 0 0;");
            Due.is("9, not 18", x.farthest(), 9);
            x.plant(0, 1, 1);
            Due.is("8", x.farthest(), 8);
            x.burn(2, true);
            Due.is("1", x.farthest(), 1);
            x.plant(0, 2, 60);
            Due.is("60", x.farthest(), 60);
            Due.is("a SOURCE alone", Due.desks("clerk 0 0 0;secret 1 0 0;").farthest(), 0);
            Due.is("of a later SECRET", Due.desks(EdgesOfTerms.clerks(2) + "line 1 0 3;secret 1 0 0;secret 1 0 1;").farthest(), 3);
            Due.is("of an earlier one", Due.desks(EdgesOfTerms.clerks(2) + "line 1 0 3;secret 1 0 1;secret 1 0 0;").farthest(), 3);
        });
    }
}
