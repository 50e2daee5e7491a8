/** Part 2: who tells whom and when, what has LEAKED, and the ACTS. */
final class EdgesOfTelling {
    private static final String FOUR = EdgesOfTerms.clerks(4);

    private EdgesOfTelling() {
    }

    static void run() {
        unmoved();
        telling();
        later();
        firstDay();
        byThemselves();
        burnt();
        leaked();
        acts();
        plants();
        undone();
    }

    private static void says(String words, Runnable test) {
        Due.says("2", words, test);
    }

    private static void unmoved() {
        says("An unmoved one sits on both SIDES ('same' and 'loyal' are 1 with him, whoever tells whom).", () -> {
            for (int bits = 0; bits < 16; bits++) {
                String one = (bits & 1) + " " + (bits >> 1 & 1) + " 0;";
                String other = (bits >> 2 & 1) + " " + (bits >> 3) + " 0;";
                String rest = "line 0 1 1;secret 1 0 0;";
                String[] kinds = {"unmoved " + one + "clerk " + other, "clerk " + one + "unmoved " + other,
                    "unmoved " + one + "unmoved " + other};
                for (String both : kinds) {
                    Due.is("same", Due.desks(both + rest + "tells same=1;").line(0, 4), 1);
                    Due.is("loyal", Due.desks(both + rest + "tells loyal=1;").line(0, 4), 1);
                    Due.is("without a rule", Due.desks(both + rest).line(0, 4), 1);
                }
            }
        });
    }

    private static void telling() {
        says("On the DAY on which an AGENT first knows a SECRET he tells it by each LINE from him", () -> {
            StringBuilder text = new StringBuilder(EdgesOfTerms.clerks(8) + "secret 1 0 0;");
            for (int to = 1; to < 8; to++) {
                text.append("line 0 ").append(to).append(' ').append(to).append(';');
            }
            WavingDesks x = Due.desks(text.toString());
            for (int to = 1; to < 8; to++) {
                Due.is("by the line to " + to, x.knows(0, to, 0), to);
            }
            // who has it told again later doesn't tell it again: the DAY is the first one
            WavingDesks y = Due.desks(FOUR + "line 0 1 1;line 0 2 5;line 2 1 1;line 1 3 1;secret 1 0 0;"
                + "tells day=0 or day=5 or day=6;");
            Due.is("1 knows it on DAY 1", y.knows(0, 1, 0), 1);
            Due.is("and doesn't tell it on DAY 6", y.knows(0, 3, 0), -1);
        });
        says("that isn't cut", () -> {
            WavingDesks x = Due.desks(FOUR + "line 0 1 1;line 0 2 1;secret 1 0 0;");
            x.cut(0, true);
            Due.is("by the cut one", x.knows(0, 1, 0), -1);
            Due.is("by the other one", x.knows(0, 2, 0), 1);
            x.cut(0, false);
            Due.is("by the mended one", x.knows(0, 1, 0), 1);
            WavingDesks y = Due.desks("double 0 0 0;clerk 0 0 0;line 0 1 1;secret 1 0 0;");
            y.cut(0, true);
            Due.is("a double neither", y.knows(0, 1, 0), -1);
        });
        says("if he isn't BURNT", () -> {
            WavingDesks x = Due.desks(FOUR + "line 0 1 1;secret 1 0 0;");
            x.burn(0, true);
            Due.is("burnt", x.knows(0, 1, 0), -1);
            x.burn(0, false);
            Due.is("not any more", x.knows(0, 1, 0), 1);
            WavingDesks y = Due.desks("double 0 0 0;clerk 0 0 0;line 0 1 1;secret 1 0 0;");
            y.burn(0, true);
            Due.is("a double neither", y.knows(0, 1, 0), -1);
        });
        says("and the rule gives more than 0", () -> {
            Due.is("0", RuleGives.holds("0"), false);
            Due.is("1", RuleGives.holds("1"), true);
            Due.is("2", RuleGives.holds("2"), true);
            Due.is("-1", RuleGives.holds("0-1"), false);
            Due.is("the most", RuleGives.holds("8192*4*256*256-1"), true);
            Due.is("the least", RuleGives.holds("8192*4*256*256"), false);
            Due.is("on two SIDES", Due.desks("clerk 0 0 0;clerk 1 1 0;line 0 1 1;secret 1 0 0;tells 1;").knows(0, 1, 0), 1);
        });
        says("(without one: if they sit on one SIDE)", () -> {
            for (int bits = 0; bits < 4; bits++) {
                String both = "clerk " + (bits & 1) + " 0 0;clerk " + (bits >> 1) + " 0 0;";
                int due = bits == 0 || bits == 3 ? 1 : -1;
                Due.is(both, Due.desks(both + "line 0 1 1;secret 1 0 0;").knows(0, 1, 0), due);
            }
        });
        says("a double always does", () -> {
            String rest = "line 0 1 1;secret 1 0 0;";
            Due.is("by a rule of 0", Due.desks("double 0 0 0;clerk 0 0 0;" + rest + "tells 0;").knows(0, 1, 0), 1);
            Due.is("to the other SIDE", Due.desks("double 0 0 0;clerk 1 1 0;" + rest).knows(0, 1, 0), 1);
            Due.is("not to one", Due.desks("clerk 0 0 0;double 0 0 0;" + rest + "tells 0;").knows(0, 1, 0), -1);
            Due.is("no other kind", Due.desks("codist 0 0 0;clerk 0 0 0;" + rest + "tells 0;").knows(0, 1, 0), -1);
        });
    }

    private static int day(String from, String to, int days) {
        return Due.desks(from + " 0 0 0;" + to + " 0 0 0;line 0 1 " + days + ";secret 1 0 0;").knows(0, 1, 0);
    }

    private static void later() {
        says("The other one knows it so many DAYS later", () -> {
            for (int days = 1; days <= 9; days++) {
                Due.is("DAYS " + days, day("clerk", "clerk", days), days);
            }
            WavingDesks x = Due.desks(FOUR + "line 1 2 9;secret 1 0 0;");
            x.plant(0, 1, 60);
            Due.is("from DAY 60 on", x.knows(0, 2, 0), 69);
        });
        says("(one less, if he is a chief; one more, if who tells is a codist; both together at least 1)", () -> {
            for (int days = 1; days <= 9; days++) {
                Due.is("to a chief", day("clerk", "chief", days), days == 1 ? 1 : days - 1);
                Due.is("from a codist", day("codist", "clerk", days), days + 1);
                Due.is("from a codist to a chief", day("codist", "chief", days), days);
                Due.is("from a chief", day("chief", "clerk", days), days);
                Due.is("from a chief to a chief", day("chief", "chief", days), days == 1 ? 1 : days - 1);
                Due.is("to a codist", day("clerk", "codist", days), days);
                Due.is("from a codist to a codist", day("codist", "codist", days), days + 1);
                Due.is("from a chief to a codist", day("chief", "codist", days), days);
                Due.is("from a double", day("double", "unmoved", days), days);
            }
        });
    }

    private static void firstDay() {
        says("So he knows it on the first such DAY", () -> {
            // 0 tells 3 by 9 DAYS, by 1 in 4, by 2 in 5
            WavingDesks x = Due.desks(FOUR + "line 0 3 9;line 0 1 1;line 1 3 3;line 0 2 1;line 2 3 4;secret 1 0 0;");
            Due.is("by 1", x.knows(0, 3, 0), 4);
            x.burn(1, true);
            Due.is("by 2", x.knows(0, 3, 0), 5);
            x.burn(2, true);
            Due.is("by 0", x.knows(0, 3, 0), 9);
        });
        says("from him who told it so (of those by whom he knows it on that DAY the least)", () -> {
            WavingDesks x = Due.desks(FOUR + "line 3 2 1;line 2 0 3;line 3 1 2;line 1 0 2;line 3 0 4;secret 1 0 3;");
            Due.is("three tell it so: the least", x.knows(0, 0, 1), 1);
            x.burn(1, true);
            Due.is("two", x.knows(0, 0, 1), 2);
            x.burn(2, true);
            Due.is("one", x.knows(0, 0, 1), 3);
            // the least of three, whether he knows it first or last of them, and whom they tell
            for (int sooner = 0; sooner < 3; sooner++) {
                for (int to = 3; to < 5; to++) {
                    StringBuilder text = new StringBuilder(EdgesOfTerms.clerks(8) + "secret 1 0 7;");
                    for (int i = 0; i < 3; i++) {
                        int days = 1 + (i + sooner) % 3;
                        text.append("line 7 ").append(i).append(' ').append(days).append(";line ").append(i).append(' ')
                            .append(to).append(' ').append(5 - days).append(';');
                    }
                    Due.is("0 of 0, 1, 2", Due.desks(text.toString()).knows(0, to, 1), 0);
                }
            }
            // of those who tell 0 on that DAY 2 knows it sooner than 3
            Due.is("2 of 2, 3", Due.desks(FOUR + "line 1 2 1;line 1 3 2;line 2 0 3;line 3 0 2;secret 1 0 1;").knows(0, 0, 1), 2);
            // the lesser one tells it a DAY later
            WavingDesks y = Due.desks(FOUR + "line 3 1 1;line 1 0 3;line 3 2 1;line 2 0 2;secret 1 0 3;");
            Due.is("the sooner one", y.knows(0, 0, 1), 2);
        });
    }

    private static void byThemselves() {
        says("the SOURCE and those to whom it is PLANTED know it by themselves, if on no later DAY than from others", () -> {
            for (int planted = 3; planted <= 5; planted++) {
                WavingDesks x = Due.desks(FOUR + "line 0 1 4;line 1 0 1;secret 1 0 0;");
                x.plant(0, 1, planted);
                Due.is("from others on DAY 4, planted on " + planted, x.knows(0, 1, 1), planted <= 4 ? -1 : 0);
                Due.is("the DAY", x.knows(0, 1, 0), Math.min(4, planted));
                Due.is("the SOURCE", x.knows(0, 0, 1), -1);
                Due.is("his DAY", x.knows(0, 0, 0), 0);
            }
            // planted with the SOURCE, or with one twice: the first DAY
            WavingDesks y = Due.desks(FOUR + "secret 1 0 0;");
            y.plant(0, 0, 7);
            y.plant(0, 1, 8);
            y.plant(0, 1, 6);
            y.plant(0, 1, 7);
            Due.is("the SOURCE", y.knows(0, 0, 0), 0);
            Due.is("planted three times", y.knows(0, 1, 0), 6);
        });
    }

    private static void burnt() {
        says("Who is BURNT hears nothing, either, but what he is the SOURCE of, and what is PLANTED.", () -> {
            WavingDesks x = Due.desks(FOUR + "line 0 1 1;line 1 2 1;secret 1 0 0;secret 1 0 1;");
            x.burn(1, true);
            Due.is("told", x.knows(0, 1, 0), -1);
            Due.is("SOURCE", x.knows(1, 1, 0), 0);
            Due.is("he doesn't tell that, either", x.knows(1, 2, 0), -1);
            x.plant(0, 1, 60);
            Due.is("PLANTED", x.knows(0, 1, 0), 60);
            Due.is("by himself", x.knows(0, 1, 1), -1);
            Due.is("he doesn't tell that, either", x.knows(0, 2, 0), -1);
            WavingDesks y = Due.desks("double 0 0 0;clerk 0 0 0;line 0 1 1;secret 1 0 0;");
            y.burn(1, true);
            Due.is("not from a double", y.knows(0, 1, 0), -1);
        });
    }

    private static void leaked() {
        says("A SECRET has LEAKED on the first DAY on which an AGENT knows it who is not of the SIDE whose it is (HIS)", () -> {
            // of the other side by HIS, not by SIDE
            WavingDesks x = Due.desks("clerk 0 0 0;clerk 1 0 0;clerk 0 1 0;line 0 1 1;line 0 2 5;line 1 2 5;"
                + "secret 3 0 0;secret 4 1 0;tells 1;");
            Due.is("the DAY", x.secret(0, 3), 5);
            Due.is("of the other side: its SOURCE", x.secret(1, 3), 0);
            x.turn(1);
            Due.is("sooner", x.secret(0, 3), 1);
            x.turn(1);
            x.cut(1, true);
            Due.is("later", x.secret(0, 3), 6);
            x.cut(2, true);
            Due.is("not at all", x.secret(0, 3), -1);
            Due.is("to nobody", x.secret(0, 4), -1);
            x.plant(0, 2, 60);
            Due.is("on DAY 60", x.secret(0, 3), 60);
        });
        says("to whom: the least such one of that DAY", () -> {
            WavingDesks x = Due.desks("clerk 0 1 0;clerk 0 0 0;clerk 0 1 0;clerk 0 1 0;"
                + "line 1 3 2;line 1 2 2;line 1 0 3;secret 1 0 1;");
            Due.is("of 2 and 3, not 0", x.secret(0, 4), 2);
            x.burn(2, true);
            Due.is("3", x.secret(0, 4), 3);
            x.burn(3, true);
            Due.is("0", x.secret(0, 4), 0);
        });
    }

    private static void acts() {
        says("ACTS (at most 40 are kept, the latest ones)", () -> {
            for (int many = 39; many <= 42; many++) {
                WavingDesks x = Due.desks(FOUR + "secret 1 0 0;");
                // the first three are of three kinds; all behind them are turnings
                x.burn(1, true);
                x.plant(0, 2, 3);
                x.move(3);
                for (int i = 3; i < many; i++) {
                    x.turn(0);
                }
                int kept = Math.min(many, 40);
                Due.is("kept of " + many, x.count(10), kept);
                for (int left = kept - 1; left >= 0; left--) {
                    Due.is("undo() of " + many, x.undo(), left);
                }
                Due.is("no more of " + many, x.undo(), -1);
                Due.is("the 1st of " + many, x.count(4), many > 40 ? 2 : 0);
                Due.is("the 2nd of " + many, x.count(6), many > 41 ? 1 : 0);
                Due.is("the 3rd of " + many, x.agent(3, 1), 0);
            }
        });
        says("ACTS (at most 40 are kept, the latest ones)", () -> {
            WavingDesks x = done(52);
            for (int i = 51; i >= 12; i--) {
                Due.is("undo()", x.undo(), i - 12);
                Due.is("as ahead of ACT " + i, state(x), state(done(i)));
            }
            Due.is("no more", x.undo(), -1);
            Due.is("as ahead of ACT 12", state(x), state(done(12)));
        });
        says("one is TURNED (HIS is the other SIDE)", () -> {
            WavingDesks x = Due.desks("clerk 0 0 0;unmoved 0 1 0;");
            x.turn(0);
            x.turn(1);
            Due.is("0 becomes 1", x.agent(0, 2), 1);
            Due.is("1 becomes 0, of an unmoved one too", x.agent(1, 2), 0);
            Due.is("SIDES stay", x.agent(0, 1) + x.agent(1, 1), 0);
        });
        says("one MOVES to the other SIDE (not an unmoved one)", () -> {
            WavingDesks x = Due.desks("clerk 0 0 0;chief 1 0 0;codist 0 0 0;double 1 0 0;unmoved 0 0 0;unmoved 1 0 0;");
            for (int a = 0; a < 6; a++) {
                int side = a % 2;
                Due.is("move(" + a + ")", x.move(a), a < 4 ? side : -1);
                Due.is("SIDE of " + a, x.agent(a, 1), a < 4 ? 1 - side : side);
                Due.is("HIS of " + a, x.agent(a, 2), 0);
            }
            Due.is("ACTS", x.count(10), 4);
        });
        says("one is BURNT, or not any more", () -> {
            WavingDesks x = Due.desks(EdgesOfTerms.clerks(8));
            for (int a = 0; a < 8; a++) {
                x.burn(a, true);
                Due.is("BURNT", x.count(4), (2 << a) - 1);
            }
            x.burn(0, false);
            x.burn(7, false);
            Due.is("not any more", x.count(4), 126);
        });
        says("a LINE is cut, or mended", () -> {
            WavingDesks x = Due.desks(EdgesOfTerms.clerks(8) + EdgesOfTerms.lines(16));
            for (int l = 0; l < 16; l++) {
                x.cut(l, true);
                Due.is("cut", x.count(5), (2 << l) - 1);
            }
            x.cut(0, false);
            x.cut(15, false);
            Due.is("mended", x.count(5), 32766);
        });
    }

    private static WavingDesks done(int acts) {
        WavingDesks x = Due.desks("clerk 0 0 0;clerk 1 1 1;line 0 1 1;secret 1 0 0;secret 1 1 1;");
        for (int i = 0; i < acts; i++) {
            varied(x, i);
        }
        return x;
    }

    /** Of two ACTS side by side no two are of one kind and of one AGENT or LINE. */
    private static void varied(WavingDesks x, int i) {
        switch (i % 13) {
            case 0, 5, 9 -> x.turn(i % 2);
            case 1, 6 -> x.move(i % 2);
            case 2, 7, 10 -> x.burn(i % 2, x.agent(i % 2, 5) == 0);
            case 3, 8, 11 -> x.cut(0, x.line(0, 3) == 0);
            case 4 -> x.plant(i % 2, 1 - i % 2, i);
            default -> x.turn(1 - i % 2);
        }
    }

    private static String state(WavingDesks x) {
        return x.agent(0, 1) + " " + x.agent(0, 2) + " " + x.agent(1, 1) + " " + x.agent(1, 2) + " " + x.count(4) + " "
            + x.count(5) + " " + x.count(6);
    }

    private static void plants() {
        says("a SECRET is PLANTED with an AGENT on a DAY (0 to 60; at most 4)", () -> {
            int[] days = {Integer.MIN_VALUE, -1, 0, 1, 59, 60, 61, Integer.MAX_VALUE};
            for (int day : days) {
                WavingDesks x = Due.desks(FOUR + "secret 1 0 0;");
                boolean taken = day >= 0 && day <= 60;
                Due.is("plant on " + day, x.plant(0, 3, day), taken ? 1 : -1);
                Due.is("known", x.knows(0, 3, 0), taken ? day : -1);
            }
            WavingDesks x = Due.desks(FOUR + "secret 1 0 0;secret 1 0 1;");
            for (int i = 1; i <= 4; i++) {
                Due.is("the " + i + "th", x.plant(i % 2, i - 1, i), i);
            }
            Due.is("the 5th", x.plant(0, 0, 0), -1);
            Due.is("PLANTED", x.count(6), 4);
            x.undo();
            Due.is("there is room again", x.plant(1, 2, 0), 4);
        });
    }

    private static void undone() {
        says("They are UNDONE, the last one first.", () -> {
            WavingDesks x = Due.desks("clerk 0 0 0;clerk 1 1 0;line 0 1 1;secret 1 0 0;");
            x.turn(0);
            x.move(1);
            x.burn(0, true);
            x.cut(0, true);
            x.plant(0, 1, 5);
            x.plant(0, 1, 2);
            Due.is("planted", x.knows(0, 1, 0), 2);
            x.undo();
            Due.is("the second is not planted", x.knows(0, 1, 0), 5);
            x.undo();
            Due.is("the first is not planted", x.knows(0, 1, 0), -1);
            Due.is("still cut", x.count(5), 1);
            x.undo();
            Due.is("mended", x.count(5), 0);
            Due.is("still burnt", x.count(4), 1);
            x.undo();
            Due.is("not burnt", x.count(4), 0);
            Due.is("still moved", x.agent(1, 1), 0);
            x.undo();
            Due.is("moved back", x.agent(1, 1), 1);
            Due.is("still turned", x.agent(0, 2), 1);
            x.undo();
            Due.is("turned back", x.agent(0, 2), 0);
            // what was undone is no ACT, and what mends and saves is undone too
            x.burn(0, true);
            x.burn(0, false);
            x.cut(0, true);
            x.cut(0, false);
            x.undo();
            Due.is("cut again", x.count(5), 1);
            x.undo();
            x.undo();
            Due.is("burnt again", x.count(4), 1);
        });
        says("All is always as if it had been so from DAY 0 on.", () -> {
            WavingDesks x = Due.desks("clerk 0 0 0;clerk 0 0 0;clerk 0 1 0;line 0 1 1;line 1 2 1;secret 6 0 0;");
            Due.is("leaked", x.secret(0, 3), 2);
            x.cut(0, true);
            Due.is("never leaked", x.secret(0, 3), -1);
            x.cut(0, false);
            x.burn(1, true);
            Due.is("never leaked", x.count(8), 0);
            x.burn(1, false);
            x.move(2);
            Due.is("never leaked", x.count(8), 0);
            x.turn(0);
            Due.is("leaked at once", x.secret(0, 3), 0);
            x.undo();
            x.plant(0, 2, 60);
            Due.is("planted", x.secret(0, 3), 60);
            x.undo();
            x.undo();
            Due.is("as at first", x.secret(0, 3), 2);
        });
    }
}
