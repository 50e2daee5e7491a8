/** Promises 12 to 17: turning, moving, burning, cutting, planting, all undone. */
public final class ActTest {
    private static final String TEXT = "clerk 0 0 0;clerk 0 0 1;clerk 1 1 2;unmoved 1 0 3;"
        + "line 0 1 2;line 1 2 3;line 0 3 9;secret 4 0 0;secret 2 1 2;";

    public static void main(String[] args) {
        turned();
        moved();
        burnt();
        cut();
        planted();
        undone();
        fortyKept();
        refused();
        Due.end("ActTest");
    }

    private static void turned() {
        WavingDesks x = Due.desks(TEXT);
        Due.is("turn(1)", x.turn(1), 0);
        Due.is("HIS", x.agent(1, 2), 1);
        Due.is("leaked now", x.secret(0, 3), 2);
        Due.is("turn(1) again", x.turn(1), 1);
        Due.is("HIS again", x.agent(1, 2), 0);
        Due.is("an unmoved one is turned too", x.turn(3), 0);
        Due.is("SIDE stays", x.agent(3, 1), 1);
        Due.is("ACTS", x.count(10), 3);
        Due.noSuch("turn(4)", () -> x.turn(4));
        Due.noSuch("turn(-1)", () -> x.turn(-1));
        Due.is("ACTS stay", x.count(10), 3);
        Due.is("no refusal", x.count(14), 0);
    }

    private static void moved() {
        WavingDesks x = Due.desks(TEXT);
        Due.is("move(1)", x.move(1), 0);
        Due.is("SIDE", x.agent(1, 1), 1);
        Due.is("HIS stays", x.agent(1, 2), 0);
        Due.is("not told", x.knows(0, 1, 0), -1);
        Due.is("move(1) again", x.move(1), 1);
        Due.is("told", x.knows(0, 1, 0), 2);
        Due.is("an unmoved one", x.move(3), -1);
        Due.is("stays", x.agent(3, 1), 1);
        Due.is("refused", x.count(14), 1);
        Due.is("ACTS", x.count(10), 2);
        Due.noSuch("move(4)", () -> x.move(4));
        Due.noSuch("move(-1)", () -> x.move(-1));
        Due.is("not counted", x.count(14), 1);
    }

    private static void burnt() {
        WavingDesks x = Due.desks(TEXT);
        Due.is("not burnt yet", x.burn(1, false), false);
        Due.is("burn(1)", x.burn(1, true), true);
        Due.is("already", x.burn(1, true), false);
        Due.is("bits", x.count(4), 2);
        Due.is("refused", x.count(14), 2);
        Due.is("not any more", x.burn(1, false), true);
        Due.is("bits", x.count(4), 0);
        Due.is("ACTS", x.count(10), 2);
        Due.noSuch("burn(4)", () -> x.burn(4, true));
        Due.noSuch("burn(-1)", () -> x.burn(-1, false));
    }

    private static void cut() {
        WavingDesks x = Due.desks(TEXT);
        Due.is("not cut yet", x.cut(0, false), false);
        Due.is("cut(0)", x.cut(0, true), true);
        Due.is("cut(2)", x.cut(2, true), true);
        Due.is("already", x.cut(0, true), false);
        Due.is("bits", x.count(5), 5);
        Due.is("not told", x.knows(0, 1, 0), -1);
        Due.is("mended", x.cut(0, false), true);
        Due.is("told", x.knows(0, 1, 0), 2);
        Due.is("bits", x.count(5), 4);
        Due.is("refused", x.count(14), 2);
        Due.is("ACTS", x.count(10), 3);
        Due.noSuch("cut(3)", () -> x.cut(3, true));
        Due.noSuch("cut(-1)", () -> x.cut(-1, true));
    }

    private static void planted() {
        WavingDesks x = Due.desks(TEXT);
        Due.is("day -1", x.plant(0, 2, -1), -1);
        Due.is("day 61", x.plant(0, 2, 61), -1);
        Due.is("refused", x.count(14), 2);
        Due.is("day 60", x.plant(0, 2, 60), 1);
        Due.is("known then", x.knows(0, 2, 0), 60);
        Due.is("by himself", x.knows(0, 2, 1), -1);
        Due.is("day 0", x.plant(0, 2, 0), 2);
        Due.is("known first", x.knows(0, 2, 0), 0);
        Due.is("the same once more", x.plant(0, 2, 0), 3);
        Due.is("another secret", x.plant(1, 0, 7), 4);
        Due.is("told on from there", x.knows(1, 1, 0), 9);
        Due.is("the fifth", x.plant(1, 1, 1), -1);
        Due.is("PLANTED", x.count(6), 4);
        Due.is("refused", x.count(14), 3);
        Due.noSuch("plant(2, 0, 0), though full", () -> x.plant(2, 0, 0));
        Due.noSuch("plant(0, 4, 99), though full", () -> x.plant(0, 4, 99));
        Due.noSuch("plant(-1, 0, 0)", () -> x.plant(-1, 0, 0));
        Due.noSuch("plant(0, -1, 0)", () -> x.plant(0, -1, 0));
        Due.is("not counted", x.count(14), 3);
        Due.is("ACTS", x.count(10), 4);
    }

    private static void undone() {
        WavingDesks x = Due.desks(TEXT);
        Due.is("none", x.undo(), -1);
        x.turn(0);
        x.move(1);
        x.burn(2, true);
        x.cut(1, true);
        x.plant(0, 2, 5);
        x.plant(1, 1, 6);
        x.burn(2, false);
        x.cut(1, false);
        Due.is("cut again", x.undo(), 7);
        Due.is("bits", x.count(5), 2);
        Due.is("burnt again", x.undo(), 6);
        Due.is("bits", x.count(4), 4);
        Due.is("the last planted", x.undo(), 5);
        Due.is("one is left", x.count(6), 1);
        Due.is("the first one", x.knows(0, 2, 0), 5);
        Due.is("not the last one", x.knows(1, 1, 0), -1);
        Due.is("planted", x.undo(), 4);
        Due.is("known no more", x.knows(0, 2, 0), -1);
        Due.is("cut", x.undo(), 3);
        Due.is("bits", x.count(5), 0);
        Due.is("burnt", x.undo(), 2);
        Due.is("bits", x.count(4), 0);
        Due.is("moved", x.undo(), 1);
        Due.is("SIDE", x.agent(1, 1), 0);
        Due.is("turned", x.undo(), 0);
        Due.is("HIS", x.agent(0, 2), 0);
        Due.is("none left", x.undo(), -1);
        Due.is("nothing refused", x.count(14), 0);
    }

    private static void fortyKept() {
        WavingDesks x = Due.desks(TEXT);
        x.burn(2, true);
        x.move(0);
        for (int i = 0; i < 40; i++) {
            x.turn(i % 3);
            Due.is("ACTS " + i, x.count(10), Math.min(40, i + 3));
        }
        for (int i = 39; i >= 0; i--) {
            Due.is("undo", x.undo(), i);
        }
        Due.is("the first ones are forgotten", x.undo(), -1);
        Due.is("burnt for good", x.count(4), 4);
        Due.is("moved for good", x.agent(0, 1), 1);
        Due.is("HIS of 0", x.agent(0, 2), 0);
        Due.is("HIS of 1", x.agent(1, 2), 0);
        Due.is("HIS of 2", x.agent(2, 2), 1);
    }

    private static void refused() {
        WavingDesks x = Due.desks(TEXT);
        x.cut(0, true);
        x.move(3);
        x.burn(0, false);
        x.cut(0, true);
        x.plant(0, 0, 70);
        Due.is("a refused ACT is not kept", x.count(10), 1);
        Due.is("but counted", x.count(14), 4);
        Due.is("undo is of the last that was done", x.undo(), 0);
        Due.is("mended", x.count(5), 0);
        Due.is("the others count for nothing", x.count(13) + x.count(15), 0);
    }
}
