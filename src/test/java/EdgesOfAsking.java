/** Promises 1 to 11: a new object, the tape, the text, and what is asked. */
final class EdgesOfAsking {
    private static final int BLANKS = 0x20202020;

    private EdgesOfAsking() {
    }

    static void run() {
        nobody();
        feed();
        offices();
        refusedOffices();
        fault();
        count();
        agent();
        line();
        secret();
        knows();
        chain();
        known();
        lastCall();
    }

    private static void says(int promise, String words, Runnable test) {
        Due.says("Promise " + promise, words, test);
    }

    private static void nobody() {
        says(1, "Nobody.", () -> {
            WavingDesks x = new WavingDesks();
            for (int what = 0; what < 16; what++) {
                Due.is("count(" + what + ")", x.count(what), 0);
            }
            Due.is("fault()", x.fault(), -1);
            Due.noSuch("agent(0, 0)", () -> x.agent(0, 0));
            Due.noSuch("line(0, 0)", () -> x.line(0, 0));
            Due.noSuch("secret(0, 0)", () -> x.secret(0, 0));
            Due.is("known(0, 0)", x.known(0, 0) + x.known(1, 99), 0);
            Due.is("waves(0)", x.waves(0), 0);
            Due.is("undo()", x.undo(), -1);
            Due.is("restore()", x.restore(), false);
        });
    }

    private static void feed() {
        says(2, "Twenty bytes come behind the tape", () -> {
            WavingDesks x = new WavingDesks();
            x.feed(0x636c6572, 0x6b203020, 0x31203220, 0x3b636869, 0x65662031); // "clerk 0 1 2 ;chief 1"
            x.feed(0x20302033, BLANKS, BLANKS, BLANKS, 0x2020203b); // " 0 3               ;"
            Due.is("read together", x.offices(40), 0);
            Due.is("AGENTS", x.count(0), 2);
            Due.is("the second's FAMILY", x.agent(1, 3), 3);
        });
        says(2, "of each number the highest first", () -> {
            WavingDesks x = new WavingDesks();
            x.feed(0x746f6f20, 0, 0, 0, 0);
            Due.is("too", x.offices(3), 1);
            int[] ten = {0x636c6572, 0x6b203020, 0x3020303b, 0x3b3b3b3b, 0x3b3b3b3b};
            x.feed(ten[0], ten[1], ten[2], ten[3], ten[4]);
            Due.is("clerk 0 0 0;", x.offices(12), 0);
            // a number below 0 has its four bytes, too: they can't stand there, at the place of the first
            x.feed(ten[0], ten[1], ten[2], -1, BLANKS);
            Due.is("byte 255", x.offices(20), 1);
            Due.is("its place", x.fault(), 12);
            x.feed(BLANKS, BLANKS, BLANKS, BLANKS, 0x2020203f);
            Due.is("the lowest comes last", x.offices(20), 1);
            Due.is("its place", x.fault(), 19);
            Due.is("each byte's own sign", Due.tell(x, "clerk 0 0 0" + (char) 187), 1);
            Due.is("its place", x.fault(), 11);
        });
        says(2, "how many it has", () -> {
            WavingDesks x = new WavingDesks();
            for (int i = 1; i <= 35; i++) {
                Due.is("feed " + i, x.feed(BLANKS, BLANKS, BLANKS, BLANKS, BLANKS), 20 * i);
                Due.is("count(12)", x.count(12), 20 * i);
            }
        });
        says(2, "NONE, and none come, if it would have more than 700.", () -> {
            Twins.nothingChanges("feed", Twins.FULL, x -> x.feed(0x3f3f3f3f, 0, 0, 0, 0), -1);
            WavingDesks x = Twins.FULL.make();
            Due.is("NONE again", x.feed(0, 0, 0, 0, 0) + x.feed(0, 0, 0, 0, 0), -2);
            Due.is("700", x.count(12), 700);
            x.offices(0);
            Due.is("room again", x.feed(0, 0, 0, 0, 0), 20);
        });
    }

    private static void offices() {
        says(3, "The tape's first n bytes", () -> {
            String text = "clerk 0 0 0;clerk 0 0 0;";
            for (int n = 0; n <= 40; n++) {
                WavingDesks x = new WavingDesks();
                Due.feed(x, text);
                boolean whole = n == 0 || n == 12 || n >= 24;
                boolean half = n > 0 && n < 5 || n > 12 && n < 17;
                Due.is("offices(" + n + ")", x.offices(n), whole ? 0 : 1);
                Due.is("fault() of " + n, x.fault(), whole ? -1 : !half ? n : n < 5 ? 0 : 12);
                Due.is("AGENTS of " + n, x.count(0), !whole ? 0 : n == 0 ? 0 : n == 12 ? 1 : 2);
            }
        });
        says(3, "(it is empty then)", () -> {
            WavingDesks x = new WavingDesks();
            Due.feed(x, " ".repeat(60));
            x.offices(0);
            Due.is("of none", x.count(12), 0);
            Due.feed(x, " ".repeat(60));
            x.offices(1);
            Due.is("of some", x.count(12), 0);
            Due.feed(x, " ".repeat(700));
            x.offices(700);
            Due.is("of all", x.count(12), 0);
            Due.feed(x, "?" + " ".repeat(50));
            x.offices(30);
            Due.is("of a FAULT", x.count(12), 0);
            Due.is("what comes next is the first", x.feed(BLANKS, BLANKS, BLANKS, BLANKS, BLANKS), 20);
            Due.is("without what was there", x.offices(20), 0);
        });
        says(3, "are OFFICES, all anew: 0", () -> {
            WavingDesks x = Twins.BUSY.make();
            Due.is("its tape has a FAULT", x.offices(14), 1);
            Due.is("others", Due.tell(x, "unmoved 1 1 3;chief 1 0 2;line 1 0 7;secret 8 1 1;"), 0);
            int[] due = {2, 1, 1, 0, 0, 0, 0, 1, 8, 2, 0, 0, 0, 2, 1, 1};
            for (int what = 0; what < 16; what++) {
                Due.is("count(" + what + ")", x.count(what), due[what]);
            }
            Due.is("without a rule: told", x.knows(0, 0, 0), 7);
            Due.is("nobody", Due.tell(x, ""), 0);
            Due.is("AGENTS", x.count(0), 0);
            Due.is("the same as at first", Due.tell(x, "clerk 1 0 0;"), 0);
            x.move(0);
            x.turn(0);
            x.burn(0, true);
            Due.is("once more", Due.tell(x, "clerk 1 0 0;"), 0);
            Due.is("SIDE, HIS, BURNT", x.agent(0, 1) * 100 + x.agent(0, 2) * 10 + x.agent(0, 5), 100);
        });
        says(3, "ACTS, what is PLANTED, SEEN, the image are gone.", () -> {
            WavingDesks x = Twins.FULL.make();
            Due.is("ACTS ahead", x.count(10), 40);
            x.offices(0);
            Due.is("ACTS", x.count(10), 0);
            Due.is("none is left", x.undo(), -1);
            Due.is("PLANTED", x.count(6), 0);
            Due.is("SEEN", x.count(11), 0);
            Due.is("the image", x.restore(), false);
            Due.tell(x, "clerk 0 0 0;clerk 0 0 0;secret 1 0 0;");
            Due.is("nothing is planted with him", x.knows(0, 1, 0), -1);
            Due.is("there is room for 4", x.plant(0, 1, 1) + x.plant(0, 1, 1) + x.plant(0, 1, 1) + x.plant(0, 1, 1), 10);
            Due.is("and for what is SEEN", x.see(0, 0, 0, true), 1);
            Due.is("which is so", x.who(0, 2), 1);
        });
    }

    private static void refusedOffices() {
        says(3, "IllegalArgumentException: the tape has not so many, n below 0 (nothing changes).", () -> {
            String name = "IllegalArgumentException";
            Refused.each(name, "offices", Twins.BUSY, WavingDesks::offices, Integer.MIN_VALUE, -1, 21, 40, Integer.MAX_VALUE);
            Refused.each(name, "offices", Twins.FULL, WavingDesks::offices, Integer.MIN_VALUE, -1, 701, Integer.MAX_VALUE);
            Refused.each(name, "offices", Twins.NEW, WavingDesks::offices, Integer.MIN_VALUE, -1, 1, Integer.MAX_VALUE);
            WavingDesks x = new WavingDesks();
            Due.is("as many as it has: none", x.offices(0), 0);
            x.feed(BLANKS, BLANKS, BLANKS, BLANKS, BLANKS);
            Due.is("as many as it has", x.offices(20), 0);
            Due.illegal("they are gone", () -> x.offices(20));
        });
    }

    private static void fault() {
        says(4, "The place of the latest offices()'s FAULT", () -> {
            WavingDesks x = new WavingDesks();
            Due.tell(x, "  ?");
            Due.is("the first", x.fault(), 2);
            Due.tell(x, "?");
            Due.is("the second", x.fault(), 0);
            Due.illegal("refused", () -> x.offices(1));
            Due.is("still the second", x.fault(), 0);
            x.image();
            Due.tell(x, " ".repeat(699) + "x");
            x.restore();
            Due.is("the third, image or not", x.fault(), 699);
            x.undo();
            Due.is("and asked again", x.fault(), 699);
        });
        says(4, "NONE without.", () -> {
            WavingDesks x = new WavingDesks();
            Due.is("without a text", x.fault(), -1);
            x.offices(0);
            Due.is("without a FAULT", x.fault(), -1);
            Due.tell(x, "?");
            Due.is("with one", x.fault(), 0);
            Due.tell(x, "clerk 0 0 0;");
            Due.is("without one again", x.fault(), -1);
        });
    }

    private static void count() {
        says(5, "0 AGENTS, 1 LINES, 2 SECRETS, 3 GRUDGES", () -> {
            WavingDesks x = Due.desks(EdgesOfTerms.clerks(8) + EdgesOfTerms.lines(16) + EdgesOfTerms.grudges(7)
                + "secret 1 0 0;".repeat(6));
            Due.is("all", x.count(0) + " " + x.count(1) + " " + x.count(2) + " " + x.count(3), "8 16 6 7");
        });
        says(5, "4 who is BURNT (bits), 5 LINES that are cut (bits)", () -> {
            WavingDesks x = Due.desks(EdgesOfTerms.clerks(8) + EdgesOfTerms.lines(16));
            x.burn(7, true);
            x.burn(0, true);
            x.cut(15, true);
            x.cut(1, true);
            Due.is("BURNT", x.count(4), 129);
            Due.is("cut", x.count(5), 32770);
        });
        says(5, "6 PLANTED", () -> {
            WavingDesks x = Due.desks("clerk 0 0 0;secret 1 0 0;");
            for (int i = 0; i < 4; i++) {
                Due.is("PLANTED", x.count(6), i);
                x.plant(0, 0, 0);
            }
            Due.is("PLANTED", x.count(6), 4);
        });
        says(5, "7 SECRETS that LEAK (bits), 8 WORTH of these together", () -> {
            WavingDesks x = Due.desks("clerk 0 0 0;secret 9 1 0;secret 8 0 0;secret 0 1 0;secret 9 0 0;secret 9 1 0;secret 9 1 0;");
            Due.is("LEAK", x.count(7), 53);
            Due.is("WORTH", x.count(8), 27);
            x.turn(0);
            Due.is("the others", x.count(7), 10);
            Due.is("their WORTH", x.count(8), 17);
        });
        says(5, "9 couples of AGENT and SECRET he ever knows", () -> {
            Due.is("none", Due.desks(EdgesOfTerms.clerks(8)).count(9), 0);
            StringBuilder all = new StringBuilder(EdgesOfTerms.clerks(8) + "secret 1 0 0;".repeat(6));
            for (int i = 0; i < 7; i++) {
                all.append("line ").append(i).append(' ').append(i + 1).append(" 9;");
            }
            WavingDesks x = Due.desks(all.toString());
            Due.is("all", x.count(9), 48);
            x.cut(6, true);
            Due.is("but one", x.count(9), 42);
            x.plant(5, 7, 60);
            Due.is("and one that is planted", x.count(9), 43);
        });
        says(5, "10 ACTS that are kept, 11 SEEN", () -> {
            WavingDesks x = Twins.FULL.make();
            Due.is("ACTS", x.count(10), 40);
            Due.is("SEEN", x.count(11), 8);
            x.undo();
            x.forget();
            Due.is("ACTS", x.count(10), 39);
            Due.is("SEEN", x.count(11), 0);
        });
        says(5, "12 bytes of the tape", () -> {
            WavingDesks x = new WavingDesks();
            x.feed(0, 0, 0, 0, 0);
            Due.is("20", x.count(12), 20);
            Due.is("full", Twins.FULL.make().count(12), 700);
        });
        says(5, "13 to 15 STATUS 0 to 2.", () -> {
            WavingDesks x = Due.desks("clerk 0 0 0;secret 1 0 0;");
            Due.tell(x, "?");
            x.burn(0, false);
            x.burn(0, false);
            x.see(0, 0, 100, true);
            x.see(0, 0, 100, true);
            x.see(0, 0, 100, true);
            Due.is("TEXTS", x.count(13), 1);
            Due.is("ACTS", x.count(14), 2);
            Due.is("SEEN", x.count(15), 3);
        });
        says(5, "NoSuchElementException: another what.", () -> {
            Refused.what(15, "count", WavingDesks::count);
            Refused.each("NoSuchElementException", "count", Twins.NEW, WavingDesks::count, -1, 16);
        });
    }

    private static void agent() {
        says(6, "Of an AGENT: 0 KIND, 1 SIDE, 2 HIS, 3 FAMILY", () -> {
            WavingDesks x = Due.desks(EdgesOfTerms.clerks(7) + "unmoved 1 0 3;");
            Due.is("the last one", x.agent(7, 0) * 1000 + x.agent(7, 1) * 100 + x.agent(7, 2) * 10 + x.agent(7, 3), 4103);
            x.turn(7);
            Due.is("HIS now", x.agent(7, 2), 1);
            x.move(0);
            Due.is("SIDE now", x.agent(0, 1), 1);
        });
        says(6, "4 SECRETS he ever knows (bits)", () -> {
            WavingDesks x = Due.desks("clerk 0 0 0;clerk 0 0 0;secret 1 0 1;" + "secret 1 0 0;".repeat(5));
            Due.is("of 0", x.agent(0, 4), 62);
            Due.is("of 1", x.agent(1, 4), 1);
            x.plant(5, 1, 60);
            Due.is("the last one, too", x.agent(1, 4), 33);
            Due.is("none", Due.desks("clerk 0 0 0;clerk 0 0 0;secret 1 0 0;").agent(1, 4), 0);
            // the farthest DAY that can be: planted on DAY 60 and told on by seven LINES of 10 DAYS
            StringBuilder row = new StringBuilder("codist 0 0 0;".repeat(8) + "secret 1 0 7;");
            for (int i = 0; i < 6; i++) {
                row.append("line ").append(i).append(' ').append(i + 1).append(" 9;");
            }
            WavingDesks y = Due.desks(row.toString());
            y.plant(0, 0, 60);
            Due.is("on DAY 120", y.knows(0, 6, 0), 120);
            Due.is("is ever", y.agent(6, 4), 1);
            Due.is("not by DAY 119", y.heard(6, 119), 0);
            Due.is("by DAY 120", y.heard(6, 120), 1);
            Due.is("the farthest", y.farthest(), 120);
        });
        says(6, "5 whether BURNT (1).", () -> {
            WavingDesks x = Due.desks(EdgesOfTerms.clerks(8));
            x.burn(7, true);
            for (int a = 0; a < 8; a++) {
                Due.is("agent(" + a + ", 5)", x.agent(a, 5), a == 7 ? 1 : 0);
            }
        });
        says(6, "NoSuchElementException: no such AGENT (as everywhere), what.", () -> {
            Refused.beyond(0, "agent", (x, n) -> x.agent(n, 0));
            Refused.beyond(0, "knows", (x, n) -> x.knows(0, n, 0));
            Refused.beyond(0, "chain", (x, n) -> x.chain(0, n, 0));
            Refused.beyond(0, "turn", WavingDesks::turn);
            Refused.beyond(0, "move", WavingDesks::move);
            Refused.beyond(0, "burn", (x, n) -> x.burn(n, true));
            Refused.beyond(0, "burn", (x, n) -> x.burn(n, false));
            Refused.beyond(0, "plant", (x, n) -> x.plant(0, n, 0));
            Refused.beyond(0, "silence", (x, n) -> x.silence(0, n));
            Refused.beyond(0, "heard", (x, n) -> x.heard(n, 0));
            Refused.beyond(0, "more", (x, n) -> x.more(n, 0));
            Refused.beyond(0, "more", (x, n) -> x.more(0, n));
            Refused.beyond(0, "word", WavingDesks::word);
            Refused.beyond(0, "see", (x, n) -> x.see(0, n, 0, true));
            Refused.what(5, "agent", (x, n) -> x.agent(0, n));
            Refused.what(5, "agent", (x, n) -> x.agent(4, n));
        });
    }

    private static void line() {
        says(7, "Of a LINE: 0 from, 1 to, 2 DAYS, 3 whether cut (1)", () -> {
            WavingDesks x = Due.desks(EdgesOfTerms.clerks(8) + EdgesOfTerms.lines(15) + "line 7 6 9;");
            Due.is("the last one", x.line(15, 0) * 100 + x.line(15, 1) * 10 + x.line(15, 2), 769);
            x.cut(15, true);
            for (int l = 0; l < 16; l++) {
                Due.is("line(" + l + ", 3)", x.line(l, 3), l == 15 ? 1 : 0);
            }
        });
        says(7, "4 SECRETS that are told by it, heard first or not (bits; none to who is BURNT).", () -> {
            WavingDesks x = Due.desks(EdgesOfTerms.clerks(3) + "line 0 1 1;line 0 2 9;line 1 2 1;line 2 0 1;"
                + "secret 1 0 0;secret 1 0 2;secret 1 0 0;secret 1 0 0;secret 1 0 0;secret 9 0 0;tells worth=1 or from=9;");
            Due.is("all that are told, not the last", x.line(0, 4), 31);
            Due.is("heard not first", x.line(1, 4), 31);
            Due.is("to who knows it by himself", x.line(3, 4), 31);
            x.burn(2, true);
            Due.is("to who is BURNT", x.line(1, 4), 0);
            Due.is("to who is BURNT, by another one", x.line(2, 4), 0);
            Due.is("from who is BURNT", x.line(3, 4), 0);
            x.plant(0, 2, 3);
            Due.is("though it is planted with him", x.line(1, 4), 0);
            Due.is("by him neither", x.line(3, 4), 0);
            x.burn(2, false);
            x.cut(1, true);
            Due.is("cut", x.line(1, 4), 0);
            Due.is("by who knows none", Due.desks("clerk 0 0 0;clerk 0 0 0;line 0 1 1;secret 1 0 1;").line(0, 4), 0);
            Due.is("of a double", Due.desks("double 0 0 0;clerk 1 0 0;line 0 1 1;secret 1 0 0;tells 0;").line(0, 4), 1);
        });
        says(7, "NoSuchElementException: no such LINE (as everywhere), what.", () -> {
            Refused.beyond(1, "line", (x, n) -> x.line(n, 0));
            Refused.beyond(1, "cut", (x, n) -> x.cut(n, true));
            Refused.beyond(1, "cut", (x, n) -> x.cut(n, false));
            Refused.beyond(1, "matters", WavingDesks::matters);
            Refused.what(4, "line", (x, n) -> x.line(0, n));
            Refused.what(4, "line", (x, n) -> x.line(5, n));
        });
    }

    private static void secret() {
        says(8, "Of a SECRET: 0 WORTH, 1 whose, 2 the SOURCE", () -> {
            WavingDesks x = Due.desks(EdgesOfTerms.clerks(8) + "secret 0 0 0;".repeat(5) + "secret 9 1 7;");
            Due.is("the last one", x.secret(5, 0) * 100 + x.secret(5, 1) * 10 + x.secret(5, 2), 917);
            Due.is("the first one", x.secret(0, 0) * 100 + x.secret(0, 1) * 10 + x.secret(0, 2), 0);
        });
        says(8, "3 the DAY on which it LEAKED (NONE), 4 to whom (NONE)", () -> {
            WavingDesks x = Due.desks("clerk 0 0 0;clerk 0 1 0;line 0 1 9;secret 1 0 0;secret 1 1 0;secret 1 1 1;");
            Due.is("on DAY 9", x.secret(0, 3), 9);
            Due.is("to 1", x.secret(0, 4), 1);
            Due.is("on DAY 0", x.secret(1, 3), 0);
            Due.is("to 0", x.secret(1, 4), 0);
            Due.is("NONE", x.secret(2, 3), -1);
            Due.is("to NONE", x.secret(2, 4), -1);
        });
        says(8, "5 how many ever know it.", () -> {
            WavingDesks x = Due.desks(EdgesOfTerms.clerks(8) + EdgesOfTerms.lines(7) + "secret 1 0 0;secret 1 0 1;");
            Due.is("all", x.secret(0, 5), 8);
            Due.is("one", x.secret(1, 5), 1);
            x.burn(0, true);
            Due.is("the SOURCE always", x.secret(0, 5), 1);
        });
        says(8, "NoSuchElementException: no such SECRET (as everywhere), what.", () -> {
            Refused.beyond(2, "secret", (x, n) -> x.secret(n, 0));
            Refused.beyond(2, "knows", (x, n) -> x.knows(n, 0, 0));
            Refused.beyond(2, "chain", (x, n) -> x.chain(n, 0, 0));
            Refused.beyond(2, "plant", (x, n) -> x.plant(n, 0, 0));
            Refused.beyond(2, "silence", (x, n) -> x.silence(n, 0));
            Refused.beyond(2, "see", (x, n) -> x.see(n, 0, 0, true));
            Refused.beyond(2, "who", (x, n) -> x.who(n, 0));
            Refused.beyond(2, "who", (x, n) -> x.who(n, 2));
            Refused.what(5, "secret", (x, n) -> x.secret(0, n));
            Refused.what(5, "secret", (x, n) -> x.secret(2, n));
        });
    }

    private static void knows() {
        String text = EdgesOfTerms.clerks(3) + "line 0 1 4;secret 1 0 0;";
        says(9, "The DAY on which an AGENT first knows a SECRET (what 0; NONE: never)", () -> {
            WavingDesks x = Due.desks(text);
            Due.is("DAY 0", x.knows(0, 0, 0), 0);
            Due.is("DAY 4", x.knows(0, 1, 0), 4);
            Due.is("never", x.knows(0, 2, 0), -1);
        });
        says(9, "from whom (1; NONE: by himself, never)", () -> {
            WavingDesks x = Due.desks(text);
            Due.is("by himself", x.knows(0, 0, 1), -1);
            Due.is("from 0", x.knows(0, 1, 1), 0);
            Due.is("never", x.knows(0, 2, 1), -1);
        });
        says(9, "how many there are in the CHAIN (2; 0: never)", () -> {
            WavingDesks x = Due.desks(text);
            Due.is("he alone", x.knows(0, 0, 2), 1);
            Due.is("two", x.knows(0, 1, 2), 2);
            Due.is("never", x.knows(0, 2, 2), 0);
        });
        says(9, "NoSuchElementException: also another what.", () -> {
            Refused.what(2, "knows", (x, n) -> x.knows(0, 0, n));
            Refused.what(2, "knows", (x, n) -> x.knows(2, 4, n));
        });
    }

    private static void chain() {
        says(10, "The i-th of the CHAIN (0 the first).", () -> {
            WavingDesks x = Due.desks(EdgesOfTerms.clerks(3) + "line 2 0 1;line 0 1 1;secret 1 0 2;");
            Due.is("0", x.chain(0, 1, 0), 2);
            Due.is("1", x.chain(0, 1, 1), 0);
            Due.is("2", x.chain(0, 1, 2), 1);
        });
        says(10, "NoSuchElementException: also there is none.", () -> {
            String name = "NoSuchElementException";
            Twins.Make make = () -> Due.desks(EdgesOfTerms.clerks(4) + "line 2 0 1;line 0 1 1;secret 1 0 2;");
            int[] wrong = {Integer.MIN_VALUE, -1, 3, 4, 7, 8, Integer.MAX_VALUE};
            Refused.each(name, "chain of three", make, (x, n) -> x.chain(0, 1, n), wrong);
            Refused.each(name, "chain of one", make, (x, n) -> x.chain(0, 2, n), -1, 1, 2, 7, 8);
            Refused.each(name, "chain of none", make, (x, n) -> x.chain(0, 3, n), -1, 0, 1, 7, 8);
        });
    }

    private static void known() {
        says(11, "KNOWN.", () -> {
            WavingDesks x = Due.desks("clerk 0 0 0;clerk 1 1 0;secret 4 0 0;secret 9 0 1;");
            Due.is("to SIDE 0", x.known(0, 0), 4);
            Due.is("to SIDE 1", x.known(1, 0), 9);
            Due.is("ahead of DAY 0", x.known(1, -1), 0);
        });
        says(11, "NoSuchElementException: no such SIDE.", () -> {
            Refused.what(1, "known", (x, n) -> x.known(n, 0));
            Refused.each("NoSuchElementException", "known", Twins.NEW, (x, n) -> x.known(n, 0), -1, 2);
        });
    }

    /** "An object is used for at most 512 calls": the 512th answers, too. */
    private static void lastCall() {
        WavingDesks x = Due.desks("clerk 0 0 0;clerk 0 0 0;line 0 1 1;secret 1 0 0;");
        // four calls are made: three of feed and one of offices
        for (int call = 5; call <= 512; call++) {
            Due.is("call " + call, x.turn(0), (call - 5) % 2);
        }
    }
}
