/** Promises 18 to 20, 22 to 24: to silence, what a line matters, one more line, a word, an exchange. */
public final class WhatIfTest {
    // 0 tells 1 and 2; 1, 2 tell 3; 3 tells 4
    private static final String TWO_WAYS = "clerk 0 0 0;".repeat(5)
        + "line 0 1 1;line 0 2 2;line 1 3 1;line 2 3 1;line 3 4 1;secret 6 0 0;";

    public static void main(String[] args) {
        silence();
        silencePlanted();
        matters();
        more();
        word();
        exchange();
        nothingChanges();
        Due.end("WhatIfTest");
    }

    private static void silence() {
        WavingDesks x = Due.desks(TWO_WAYS);
        Due.is("by the one who tells him", x.silence(0, 4), 8);
        Due.is("both ways", x.silence(0, 3), 6);
        Due.is("straight from the source", x.silence(0, 1), -1);
        Due.is("the source", x.silence(0, 0), -1);
        x.burn(1, true);
        Due.is("one more", x.silence(0, 3), 4);
        Due.is("of as few the least", x.silence(0, 4), 4);
        Due.is("who is burnt hears nothing", x.silence(0, 1), 0);
        x.burn(2, true);
        Due.is("nobody is needed", x.silence(0, 4), 0);
        WavingDesks y = Due.desks("clerk 0 0 0;".repeat(4) + "line 3 0 1;line 3 1 1;line 0 2 1;line 1 2 1;secret 1 0 3;");
        Due.is("told by 0", y.knows(0, 2, 1), 0);
        Due.is("all that may be burnt", y.silence(0, 2), 3);
        Due.noSuch("silence(1, 0)", () -> x.silence(1, 0));
        Due.noSuch("silence(-1, 0)", () -> x.silence(-1, 0));
        Due.noSuch("silence(0, 5)", () -> x.silence(0, 5));
        Due.noSuch("silence(0, -1)", () -> x.silence(0, -1));
    }

    private static void silencePlanted() {
        WavingDesks x = Due.desks(TWO_WAYS);
        x.plant(0, 3, 3);
        Due.is("3 hears it on day 2", x.knows(0, 3, 0), 2);
        Due.is("so he may be burnt", x.silence(0, 4), 8);
        Due.is("but will know it", x.silence(0, 3), -1);
        x.plant(0, 3, 2);
        Due.is("now by himself", x.knows(0, 3, 1), -1);
        Due.is("so he may not", x.silence(0, 4), -1);
        // a burnt one who is planted with it is no way, whoever else is
        WavingDesks y = Due.desks(TWO_WAYS);
        y.burn(3, true);
        y.plant(0, 3, 0);
        Due.is("nothing comes by a burnt one", y.silence(0, 4), 0);
    }

    private static void matters() {
        // 0 tells 1 of its own side, 1 tells 2 and 3 of the other one
        WavingDesks x = Due.desks("clerk 0 0 0;clerk 0 0 0;clerk 0 1 0;clerk 0 1 0;"
            + "line 1 2 1;line 0 1 1;line 1 3 1;secret 6 0 0;secret 3 0 1;secret 2 1 2;line 3 0 1;");
        Due.is("one of two ways", x.matters(0), 0);
        Due.is("the first step", x.matters(1), 6);
        Due.is("the other way", x.matters(2), 0);
        Due.is("the dearest", x.dearest(), 1);
        x.cut(2, true);
        Due.is("now the only way", x.matters(0), 9);
        Due.is("a cut one", x.matters(2), 0);
        Due.is("now the dearest", x.dearest(), 0);
        x.burn(1, true);
        Due.is("nothing goes by it", x.matters(0), 0);
        Due.is("of like ones the least", x.dearest(), 0);
        Due.noSuch("matters(4)", () -> x.matters(4));
        Due.noSuch("matters(-1)", () -> x.matters(-1));
        Due.is("no lines", Due.desks("clerk 0 0 0;").dearest(), -1);
        // 1 hears on day 1 and is silent; by 3, a chief, on day 3, and tells
        WavingDesks w = Due.desks("clerk 0 0 0;clerk 0 0 0;clerk 0 1 0;chief 0 0 0;"
            + "line 0 1 1;line 0 3 1;line 3 1 2;line 1 2 1;secret 7 0 0;tells day=0 or from=1 or day=3;");
        Due.is("silent", w.count(8), 0);
        Due.is("below 0: it would be more", w.matters(0), -7);
        Due.is("less than nothing is not the dearest", w.dearest(), 1);
    }

    private static void more() {
        WavingDesks x = Due.desks("clerk 0 0 0;clerk 0 0 0;clerk 1 0 0;chief 0 0 0;line 1 3 1;secret 1 0 0;secret 1 0 1;");
        // 0 knows s0; 1 and 3 know s1
        Due.is("0 to 1, and on to 3", x.more(0, 1), 2);
        Due.is("1 to 0", x.more(1, 0), 1);
        Due.is("across the sides", x.more(0, 2), 0);
        Due.is("though there be one", x.more(1, 3), 0);
        Due.is("from one who knows nothing", x.more(2, 0), 0);
        Due.is("3 to 0", x.more(3, 0), 1);
        x.burn(1, true);
        Due.is("to a burnt one", x.more(0, 1), 0);
        Due.is("from a burnt one", x.more(1, 0), 0);
        Due.noSuch("more(4, 0)", () -> x.more(4, 0));
        Due.noSuch("more(0, 4)", () -> x.more(0, 4));
        Due.noSuch("more(-1, -1)", () -> x.more(-1, -1));
        Due.noSuch("more(4, 4)", () -> x.more(4, 4));
        Due.illegal("more(0, 0)", () -> x.more(0, 0));
        // told on day 1, who would tell on day 2 doesn't
        WavingDesks y = Due.desks("clerk 0 0 0;clerk 0 0 0;clerk 0 0 0;line 0 1 2;line 1 2 1;secret 1 0 0;tells not day=1;");
        Due.is("fewer by one more line", y.more(0, 1), -1);
        // a cut one is no line, and one more is of 1 day
        y.cut(0, true);
        Due.is("beside a cut one", y.more(0, 1), 1);
        WavingDesks z = Due.desks("codist 0 0 0;clerk 0 0 0;clerk 0 0 0;line 1 2 1;secret 1 0 0;tells day=0 or day=2;");
        Due.is("a codist's line of 1 day takes 2", z.more(0, 1), 2);
    }

    private static void word() {
        WavingDesks x = Due.desks(TWO_WAYS);
        Due.is("the source: all but himself", x.word(0), 4);
        Due.is("one of two ways: himself", x.word(1), 1);
        Due.is("the last but one", x.word(3), 2);
        x.burn(3, true);
        Due.is("who is burnt", x.word(3), 0);
        x.plant(0, 4, 1);
        Due.is("planted: nothing fewer", x.word(4), 0);
        Due.noSuch("word(5)", () -> x.word(5));
        Due.noSuch("word(-1)", () -> x.word(-1));
        WavingDesks y = Due.desks("clerk 0 0 0;chief 0 0 0;clerk 0 0 0;clerk 0 0 0;"
            + "line 0 1 1;line 0 2 2;line 1 2 1;line 2 3 1;secret 1 0 0;tells from=0 and not day=1 or from=1;");
        Due.is("2 hears on day 2 both ways", y.knows(0, 2, 1), 0);
        Due.is("so 1 takes himself alone", y.word(1), 1);
    }

    private static void exchange() {
        WavingDesks none = Due.desks("");
        Due.is("nobody", none.exchange(0), 0);
        Due.is("no families", none.exchange(1), 0);
        WavingDesks x = Due.desks("clerk 0 1 0;clerk 1 0 1;clerk 0 0 2;clerk 1 1 3;");
        Due.is("all well", x.exchange(0), 4);
        Due.is("by two families", x.exchange(1), 3);
        x.turn(2);
        Due.is("by three", x.exchange(1), 7);
        x.undo();
        x.move(0);
        Due.is("by one", x.exchange(1), 2);
        WavingDesks y = Due.desks("clerk 0 0 3;clerk 0 1 3;unmoved 0 1 3;");
        Due.is("either way", y.exchange(0), 2);
        Due.is("of like ones the least", y.exchange(1), 0);
        WavingDesks z = Due.desks("clerk 0 0 0;clerk 0 0 1;unmoved 1 0 2;grudge 0 1;grudge 2 0;");
        Due.is("grudges: 3 - 2, or 2 - 1 and like", z.exchange(0), 1);
        Due.is("stay", z.exchange(1), 0);
        WavingDesks w = Due.desks("clerk 0 0 0;clerk 0 0 1;clerk 0 0 1;grudge 0 1;grudge 0 2;");
        Due.is("3 - 2, or 2 - 0", w.exchange(0), 2);
        Due.is("the first one moves", w.exchange(1), 1);
        WavingDesks v = Due.desks("clerk 0 1 0;unmoved 0 1 0;clerk 0 1 0;unmoved 0 0 1;"
            + "grudge 0 1;grudge 2 1;grudge 0 2;grudge 0 3;grudge 2 3;grudge 1 3;");
        Due.is("below 0", v.exchange(0), -2);
        Due.is("though they move", v.exchange(1), 1);
        WavingDesks all = Due.desks("clerk 0 1 0;clerk 0 1 1;clerk 0 1 2;clerk 0 1 3;");
        Due.is("all families", all.exchange(0), 4);
        Due.is("all families", all.exchange(1), 15);
        Due.is("a grudge of the second and third", Due.desks("clerk 0 0 0;clerk 1 1 1;clerk 1 1 2;grudge 1 2;").exchange(0), 2);
        Due.noSuch("exchange(2)", () -> v.exchange(2));
        Due.noSuch("exchange(-1)", () -> v.exchange(-1));
    }

    private static void nothingChanges() {
        WavingDesks x = Due.desks(AskTest.BASE);
        for (int a = 0; a < 5; a++) {
            x.silence(0, a);
            x.word(a);
            x.more(a, (a + 1) % 5);
        }
        x.dearest();
        x.exchange(1);
        x.game(0);
        x.years(7, 40, 0);
        x.who(0, 0);
        int[] due = {5, 6, 2, 2, 0, 0, 0, 3, 8, 10, 0, 0, 0, 0, 0, 0};
        for (int what = 0; what < 16; what++) {
            Due.is("count(" + what + ") as before", x.count(what), due[what]);
        }
        Due.is("SIDES", x.agent(0, 1) + 2 * x.agent(1, 1) + 4 * x.agent(2, 1) + 8 * x.agent(3, 1), 12);
        Due.is("farthest() as before", x.farthest(), 11);
        Due.is("knows() as before", x.knows(0, 2, 0), 6);
        Due.is("more() once more", x.more(1, 2), 0);
        Due.is("word() once more", x.word(0), 8);
    }
}
