/** Promises 27 to 29: what is seen, and who else can have told it. */
public final class SeenTest {
    private static final String TEXT = "clerk 0 0 0;clerk 0 0 0;clerk 1 0 0;chief 1 0 0;"
        + "line 0 1 4;line 2 3 3;secret 5 0 0;secret 2 0 2;";

    public static void main(String[] args) {
        see();
        whoElse();
        other();
        planted();
        wrong();
        Due.end("SeenTest");
    }

    private static void see() {
        WavingDesks x = Due.desks(TEXT);
        Due.is("day -1", x.see(0, 0, -1, true), -1);
        Due.is("day 100", x.see(0, 0, 100, false), -1);
        Due.is("refused", x.count(15), 2);
        for (int i = 1; i <= 8; i++) {
            Due.is("see " + i, x.see(0, 0, i == 1 ? 0 : 99, true), i);
        }
        Due.is("the ninth", x.see(0, 0, 5, true), -1);
        Due.is("SEEN", x.count(11), 8);
        Due.is("refused", x.count(15), 3);
        Due.noSuch("see(2, 0, 100), though full", () -> x.see(2, 0, 100, true));
        Due.noSuch("see(0, 4, 100), though full", () -> x.see(0, 4, 100, true));
        Due.noSuch("see(-1, 0, 0)", () -> x.see(-1, 0, 0, true));
        Due.noSuch("see(0, -1, 0)", () -> x.see(0, -1, 0, true));
        Due.is("not counted", x.count(15), 3);
        Due.is("no ACT", x.count(10), 0);
        x.forget();
        Due.is("forgotten", x.count(11), 0);
        Due.is("STATUS stays", x.count(15), 3);
        Due.is("anew", x.see(0, 0, 0, true), 1);
    }

    private static void whoElse() {
        WavingDesks x = Due.desks(TEXT);
        Due.is("nothing seen: all", x.who(0, 0), 84);
        Due.is("the first", x.who(0, 1), 0);
        Due.is("without", x.who(0, 2), 1);
        x.see(0, 3, 10, true);
        // with 2 by day 8 (the chief hears two days later), with 3 by day 10
        Due.is("not so without", x.who(0, 2), 0);
        Due.is("how many", x.who(0, 0), 20);
        Due.is("the first", x.who(0, 1), 200);
        x.see(0, 3, 7, false);
        // with 2 on days 6 to 8, with 3 on days 8 to 10
        Due.is("how many", x.who(0, 0), 6);
        Due.is("the first", x.who(0, 1), 206);
        x.see(0, 2, 99, false);
        Due.is("with 3 alone", x.who(0, 0), 3);
        Due.is("the first", x.who(0, 1), 308);
        x.see(0, 0, 0, false);
        Due.is("none", x.who(0, 0), 0);
        Due.is("no first", x.who(0, 1), -1);
        x.forget();
        x.see(0, 3, 99, true);
        Due.is("up to day 20", x.who(0, 0), 42);
        x.see(0, 3, 19, false);
        x.see(0, 2, 99, false);
        Due.is("on day 20 alone", x.who(0, 0), 1);
        Due.is("on day 20 alone", x.who(0, 1), 320);
        x.forget();
        x.see(0, 1, 3, false);
        x.see(0, 1, 4, true);
        Due.is("so without", x.who(0, 2), 1);
        // with 1 not on days 0 to 3
        Due.is("how many", x.who(0, 0), 80);
    }

    private static void other() {
        WavingDesks x = Due.desks(TEXT);
        x.see(1, 3, 1, true);
        Due.is("another secret's sight counts", x.who(0, 0), 0);
        Due.is("without", x.who(0, 2), 0);
        // the other secret comes to 3 on day 2: with 3 on days 0, 1
        Due.is("its own", x.who(1, 0), 2);
        Due.is("the first", x.who(1, 1), 300);
        x.forget();
        x.see(1, 3, 2, true);
        x.see(0, 1, 1, true);
        Due.is("both", x.who(0, 0), 2);
        Due.is("the first", x.who(0, 1), 100);
    }

    private static void planted() {
        WavingDesks x = Due.desks(TEXT);
        for (int i = 0; i < 4; i++) {
            x.plant(1, 0, 60);
        }
        x.see(0, 3, 10, true);
        Due.is("one more than four", x.who(0, 0), 20);
        x.burn(2, true);
        // a burnt one knows what is planted, and tells nothing
        Due.is("with 3 alone", x.who(0, 1), 300);
        x.burn(3, true);
        Due.is("planted with a burnt one", x.who(0, 0), 11);
        Due.is("PLANTED as before", x.count(6), 4);
        Due.is("never known as before", x.knows(0, 3, 0), -1);
    }

    private static void wrong() {
        WavingDesks x = Due.desks(TEXT);
        Due.noSuch("who(2, 0)", () -> x.who(2, 0));
        Due.noSuch("who(-1, 0)", () -> x.who(-1, 0));
        Due.noSuch("who(0, 3)", () -> x.who(0, 3));
        Due.noSuch("who(0, -1)", () -> x.who(0, -1));
    }
}
