/** Promises 32 and 33: an image is kept, and it is as the image again. */
public final class ImageTest {
    private static final String TEXT = "clerk 0 0 0;clerk 0 1 1;clerk 1 0 2;unmoved 1 1 3;"
        + "line 0 1 1;line 1 2 2;line 2 3 3;secret 5 0 0;secret 4 1 1;";

    public static void main(String[] args) {
        none();
        asTheImage();
        otherwiseFromThere();
        inPlaceOfAnother();
        goneAnew();
        Due.end("ImageTest");
    }

    private static void none() {
        WavingDesks x = Due.desks(TEXT);
        x.turn(0);
        Due.is("there is none", x.restore(), false);
        Due.is("nothing changes", x.agent(0, 2), 1);
        WavingDesks y = new WavingDesks();
        y.image();
        Due.is("one of nobody", y.restore(), true);
    }

    private static void asTheImage() {
        WavingDesks x = Due.desks(TEXT);
        x.turn(0);
        x.move(1);
        x.burn(2, true);
        x.cut(1, true);
        x.plant(1, 2, 7);
        x.see(0, 1, 5, true);
        x.burn(2, true);
        x.see(0, 1, 500, true);
        Due.tell(x, "?");
        x.image();
        for (int round = 0; round < 2; round++) {
            x.turn(0);
            x.turn(1);
            x.move(1);
            x.move(2);
            x.burn(2, false);
            x.burn(3, true);
            x.cut(1, false);
            x.cut(0, true);
            x.plant(0, 2, 0);
            x.undo();
            x.undo();
            x.forget();
            x.see(1, 1, 1, false);
            x.see(1, 1, 1, false);
            x.see(1, 1, -1, false);
            x.move(3);
            Due.tell(x, " x");
            x.feed(0, 0, 0, 0, 0);
            Due.is("restore()", x.restore(), true);
            int[] due = {4, 3, 2, 0, 4, 2, 1, 3, 9, 3, 5, 1, 20, 1, 1, 1};
            for (int what = 0; what < 16; what++) {
                Due.is("count(" + what + ")", x.count(what), due[what]);
            }
            Due.is("HIS", x.agent(0, 2) + 2 * x.agent(1, 2) + 4 * x.agent(2, 2) + 8 * x.agent(3, 2), 11);
            Due.is("SIDES", x.agent(0, 1) + 2 * x.agent(1, 1) + 4 * x.agent(2, 1) + 8 * x.agent(3, 1), 14);
            Due.is("the planted one", x.knows(1, 2, 0), 7);
            Due.is("what is seen is not so", x.who(0, 2), 0);
            Due.is("the place of the fault stays", x.fault(), 1);
            x.offices(1);
        }
        Due.is("undone from there: the planted one", x.undo(), 4);
        Due.is("known no more", x.knows(1, 2, 0), -1);
        Due.is("mended", x.undo(), 3);
        Due.is("bits", x.count(5), 0);
        Due.is("not burnt", x.undo(), 2);
        Due.is("moved back", x.undo(), 1);
        Due.is("SIDE", x.agent(1, 1), 0);
        Due.is("turned back", x.undo(), 0);
        Due.is("HIS", x.agent(0, 2), 0);
        Due.is("none left", x.undo(), -1);
        Due.is("and again", x.restore(), true);
        Due.is("ACTS", x.count(10), 5);
    }

    /** What was undone and done otherwise behind the image is as in the image again. */
    private static void otherwiseFromThere() {
        WavingDesks x = Due.desks(TEXT);
        x.plant(0, 2, 9);
        x.burn(3, true);
        x.turn(2);
        x.see(0, 2, 9, true);
        x.see(0, 2, 8, false);
        x.image();
        x.undo();
        x.undo();
        x.undo();
        x.plant(1, 0, 3);
        x.cut(2, true);
        x.move(1);
        x.forget();
        x.see(1, 0, 2, true);
        x.see(1, 0, 3, false);
        Due.is("other", x.who(0, 2), 0);
        x.restore();
        Due.is("the planted one", x.knows(0, 2, 0), 9);
        Due.is("not the other one", x.knows(1, 0, 0), -1);
        Due.is("what is seen is so", x.who(0, 2), 1);
        Due.is("turned back", x.undo(), 2);
        Due.is("HIS", x.agent(2, 2), 0);
        Due.is("not burnt", x.undo(), 1);
        Due.is("bits", x.count(4), 0);
        Due.is("not planted", x.undo(), 0);
        Due.is("known no more", x.knows(0, 2, 0), -1);
        Due.is("the line stays", x.count(5), 0);
        Due.is("the SIDE stays", x.agent(1, 1), 0);
    }

    private static void inPlaceOfAnother() {
        WavingDesks x = Due.desks(TEXT);
        x.image();
        x.turn(0);
        x.image();
        x.turn(1);
        x.restore();
        Due.is("the later one", x.agent(0, 2), 1);
        Due.is("without what came behind", x.agent(1, 2), 1);
        Due.is("ACTS", x.count(10), 1);
    }

    private static void goneAnew() {
        WavingDesks x = Due.desks(TEXT);
        x.turn(0);
        x.image();
        Due.is("a fault leaves it", Due.tell(x, "clerk"), 1);
        Due.is("there is one", x.restore(), true);
        Due.is("the same offices anew", Due.tell(x, TEXT), 0);
        Due.is("there is none", x.restore(), false);
        Due.is("HIS", x.agent(0, 2), 0);
    }
}
