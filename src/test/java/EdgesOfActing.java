/** Promises 12 to 17, 27, 29, 32, 33: what changes, what is refused and counted, what is undone, kept and restored. */
final class EdgesOfActing {
    private static final String NO_SUCH = "NoSuchElementException";
    private static final Twins.Make[] MAKES = {Twins.BUSY, Twins.FULL};

    private EdgesOfActing() {
    }

    static void run() {
        turn();
        move();
        burn();
        cut();
        plant();
        undo();
        see();
        forget();
        image();
        restore();
    }

    private static void says(int promise, String words, Runnable test) {
        Due.says("Promise " + promise, words, test);
    }

    private static void turn() {
        says(12, "TURNED: HIS as it was.", () -> {
            WavingDesks x = Due.desks("clerk 1 0 0;unmoved 0 1 0;");
            for (int i = 0; i < 3; i++) {
                Due.is("turn(0) " + i, x.turn(0), i % 2);
                Due.is("turn(1) " + i, x.turn(1), 1 - i % 2);
            }
            Due.is("a BURNT one too", x.burn(0, true) ? x.turn(0) : -9, 1);
            Due.is("nothing is refused", x.count(14), 0);
            Due.is("ACTS", x.count(10), 8);
        });
    }

    private static void move() {
        says(13, "One MOVES: the SIDE as it was.", () -> {
            WavingDesks x = Due.desks("clerk 1 0 0;double 0 1 0;");
            for (int i = 0; i < 3; i++) {
                Due.is("move(0) " + i, x.move(0), 1 - i % 2);
                Due.is("move(1) " + i, x.move(1), i % 2);
            }
            Due.is("ACTS", x.count(10), 6);
        });
        says(13, "NONE (STATUS 1): an unmoved one.", () -> {
            Twins.countsIn(14, "move(4)", Twins.BUSY, x -> x.move(4), -1);
            Twins.countsIn(14, "move(2)", Twins.FULL, x -> x.move(2), -1);
            Twins.countsIn(14, "move(0) of one alone", () -> Due.desks("unmoved 1 1 1;"), x -> x.move(0), -1);
        });
    }

    private static void burn() {
        says(14, "BURNT or not: true.", () -> {
            WavingDesks x = Due.desks(EdgesOfTerms.clerks(8));
            Due.is("the first", x.burn(0, true), true);
            Due.is("the last", x.burn(7, true), true);
            Due.is("not any more", x.burn(7, false), true);
            Due.is("bits", x.count(4), 1);
            Due.is("ACTS", x.count(10), 3);
        });
        says(14, "False (STATUS 1): he is so already.", () -> {
            Twins.countsIn(14, "burn(3, true)", Twins.BUSY, x -> x.burn(3, true), false);
            Twins.countsIn(14, "burn(0, false)", Twins.BUSY, x -> x.burn(0, false), false);
            Twins.countsIn(14, "burn(1, true)", Twins.FULL, x -> x.burn(1, true), false);
            Twins.countsIn(14, "burn(2, false)", Twins.FULL, x -> x.burn(2, false), false);
        });
    }

    private static void cut() {
        says(15, "Cut or mended: true.", () -> {
            WavingDesks x = Due.desks(EdgesOfTerms.clerks(8) + EdgesOfTerms.lines(16));
            Due.is("the first", x.cut(0, true), true);
            Due.is("the last", x.cut(15, true), true);
            Due.is("mended", x.cut(0, false), true);
            Due.is("bits", x.count(5), 32768);
            Due.is("ACTS", x.count(10), 3);
        });
        says(15, "False (STATUS 1): it is so already.", () -> {
            Twins.countsIn(14, "cut(4, true)", Twins.BUSY, x -> x.cut(4, true), false);
            Twins.countsIn(14, "cut(0, false)", Twins.BUSY, x -> x.cut(0, false), false);
            Twins.countsIn(14, "cut(1, false)", Twins.FULL, x -> x.cut(1, false), false);
        });
    }

    private static void plant() {
        says(16, "PLANTED: how many are.", () -> {
            WavingDesks x = Due.desks("clerk 0 0 0;clerk 0 0 0;secret 1 0 0;");
            Due.is("1", x.plant(0, 0, 0), 1);
            Due.is("2", x.plant(0, 1, 60), 2);
            Due.is("3, with whom it is already", x.plant(0, 1, 60), 3);
            Due.is("4", x.plant(0, 1, 0), 4);
            Due.is("ACTS", x.count(10), 4);
        });
        says(16, "NONE (STATUS 1): there are 4, not 0 to 60.", () -> {
            Twins.countsIn(14, "the 5th", Twins.FULL, x -> x.plant(0, 0, 0), -1);
            Twins.countsIn(14, "the 5th on DAY 60", Twins.FULL, x -> x.plant(1, 2, 60), -1);
            Twins.countsIn(14, "the 5th on DAY 61, once", Twins.FULL, x -> x.plant(1, 2, 61), -1);
            Twins.countsIn(14, "DAY -1", Twins.BUSY, x -> x.plant(0, 0, -1), -1);
            Twins.countsIn(14, "DAY 61", Twins.BUSY, x -> x.plant(2, 4, 61), -1);
            Twins.countsIn(14, "the least DAY", Twins.BUSY, x -> x.plant(0, 0, Integer.MIN_VALUE), -1);
            Twins.countsIn(14, "the most", Twins.BUSY, x -> x.plant(0, 0, Integer.MAX_VALUE), -1);
        });
        says(16, "NoSuchElementException (ahead): no such SECRET, AGENT.", () -> {
            for (Twins.Make make : MAKES) {
                Refused.each(NO_SUCH, "plant of no SECRET", make, (x, n) -> x.plant(n, 0, 61), -1, 3, 6);
                Refused.each(NO_SUCH, "plant with no AGENT", make, (x, n) -> x.plant(0, n, -1), -1, 5, 8);
                Refused.each(NO_SUCH, "plant of neither", make, (x, n) -> x.plant(n, n, 0), -1, 8);
            }
        });
    }

    private static void undo() {
        says(17, "The last ACT is UNDONE: how many are left.", () -> {
            WavingDesks x = Due.desks("clerk 0 0 0;clerk 1 0 0;line 0 1 1;secret 1 0 0;");
            x.turn(0);
            x.move(0);
            x.burn(0, true);
            x.cut(0, true);
            x.plant(0, 1, 1);
            for (int left = 4; left >= 0; left--) {
                Due.is("undo()", x.undo(), left);
                Due.is("ACTS", x.count(10), left);
            }
            Due.is("all as at first", x.agent(0, 1) + x.agent(0, 2) + x.count(4) + x.count(5) + x.count(6), 0);
            // an ACT and its undoing leave all as it was
            Twins.nothingChanges("turn(0), undo()", Twins.BUSY, y -> y.turn(0) + y.undo(), 6);
            Twins.nothingChanges("move(0), undo()", Twins.BUSY, y -> y.move(0) + y.undo(), 6);
            Twins.nothingChanges("burn(0, true), undo()", Twins.BUSY, y -> y.burn(0, true) ? y.undo() : -9, 6);
            Twins.nothingChanges("burn(3, false), undo()", Twins.BUSY, y -> y.burn(3, false) ? y.undo() : -9, 6);
            Twins.nothingChanges("cut(0, true), undo()", Twins.BUSY, y -> y.cut(0, true) ? y.undo() : -9, 6);
            Twins.nothingChanges("cut(4, false), undo()", Twins.BUSY, y -> y.cut(4, false) ? y.undo() : -9, 6);
            Twins.nothingChanges("plant(0, 0, 0), undo()", Twins.BUSY, y -> y.plant(0, 0, 0) + y.undo(), 9);
        });
        says(17, "NONE: there is none.", () -> {
            Twins.nothingChanges("undo()", Twins.NEW, WavingDesks::undo, -1);
            Twins.nothingChanges("undo()", () -> Due.desks("clerk 0 0 0;secret 1 0 0;"), WavingDesks::undo, -1);
            // nothing is left of 40, though more were done
            Twins.Make undone = () -> {
                WavingDesks x = Twins.FULL.make();
                for (int i = 0; i < 40; i++) {
                    x.undo();
                }
                return x;
            };
            Twins.nothingChanges("undo()", undone, WavingDesks::undo, -1);
        });
    }

    private static void see() {
        says(27, "SEEN: how much is.", () -> {
            WavingDesks x = Due.desks("clerk 0 0 0;secret 1 0 0;");
            for (int i = 1; i <= 8; i++) {
                Due.is("see", x.see(0, 0, i % 2 * 99, i < 4), i);
                Due.is("SEEN", x.count(11), i);
            }
            Due.is("no ACT", x.count(10), 0);
        });
        says(27, "NONE (STATUS 2): there are 8, not 0 to 99.", () -> {
            Twins.countsIn(15, "the 9th", Twins.FULL, x -> x.see(0, 0, 0, true), -1);
            Twins.countsIn(15, "the 9th on DAY 100, once", Twins.FULL, x -> x.see(0, 0, 100, false), -1);
            Twins.countsIn(15, "DAY -1", Twins.BUSY, x -> x.see(0, 0, -1, false), -1);
            Twins.countsIn(15, "DAY 100", Twins.BUSY, x -> x.see(2, 4, 100, true), -1);
            Twins.countsIn(15, "the least DAY", Twins.BUSY, x -> x.see(0, 0, Integer.MIN_VALUE, true), -1);
            Twins.countsIn(15, "the most", Twins.BUSY, x -> x.see(0, 0, Integer.MAX_VALUE, true), -1);
        });
        says(27, "NoSuchElementException (ahead): no such SECRET, AGENT.", () -> {
            for (Twins.Make make : MAKES) {
                Refused.each(NO_SUCH, "see of no SECRET", make, (x, n) -> x.see(n, 0, 100, true), -1, 3, 6);
                Refused.each(NO_SUCH, "see of no AGENT", make, (x, n) -> x.see(0, n, -1, true), -1, 5, 8);
                Refused.each(NO_SUCH, "see of neither", make, (x, n) -> x.see(n, n, 0, false), -1, 8);
            }
        });
    }

    private static void forget() {
        says(29, "All that is SEEN is forgotten.", () -> {
            WavingDesks x = Twins.FULL.make();
            Due.is("not so", x.who(0, 2), 0);
            x.forget();
            Due.is("SEEN", x.count(11), 0);
            Due.is("nothing is against it", x.who(0, 2), 1);
            Due.is("nor anywhere", x.who(0, 0), 63);
            Due.is("there is room again", x.see(0, 0, 0, true), 1);
            Twins.Make nothingSeen = () -> Due.desks("clerk 0 0 0;unmoved 1 1 1;line 0 1 1;secret 1 0 0;");
            Twins.Use forget = y -> {
                y.forget();
                return "forgotten";
            };
            Twins.nothingChanges("forget() of nothing", nothingSeen, forget, "forgotten");
            Twins.nothingChanges("forget() of nothing", Twins.NEW, forget, "forgotten");
            // it is no ACT, and no other thing is forgotten
            Twins.Use seenAgain = y -> {
                y.forget();
                y.see(0, 4, 9, false);
                return y.see(2, 0, 1, true);
            };
            Twins.nothingChanges("forget(), and the same SEEN again", Twins.BUSY, seenAgain, 2);
        });
    }

    private static void image() {
        says(32, "AN IMAGE is kept, in place of another one.", () -> {
            WavingDesks x = Due.desks("clerk 0 0 0;");
            x.image();
            x.turn(0);
            x.image();
            x.turn(0);
            x.turn(0);
            Due.is("there is one", x.restore(), true);
            Due.is("the second", x.count(10), 1);
            Due.is("HIS", x.agent(0, 2), 1);
            Due.is("it is kept still", x.restore(), true);
            Due.is("the second", x.count(10), 1);
            // the image of nothing but what is: restored at once it changes nothing
            Twins.Use both = y -> {
                y.image();
                return y.restore();
            };
            Twins.Make imaged = () -> {
                WavingDesks y = Twins.BUSY.make();
                y.image();
                return y;
            };
            Twins.nothingChanges("image(), restore()", imaged, both, true);
        });
    }

    private static void restore() {
        says(33, "It is as the IMAGE again: true.", () -> {
            WavingDesks x = Twins.BUSY.make();
            Due.is("restore()", x.restore(), true);
            int[] due = {5, 6, 3, 2, 0, 16, 1};
            for (int what = 0; what < due.length; what++) {
                Due.is("count(" + what + ")", x.count(what), due[what]);
            }
            Due.is("ACTS, SEEN", x.count(10) * 10 + x.count(11), 31);
            Due.is("STATUS", x.count(13) + x.count(14) + x.count(15), 0);
            // tape and FAULT's place are not of it
            Due.is("bytes", x.count(12), 20);
            Due.is("fault()", x.fault(), 9);
            Twins.nothingChanges("restore() once more", () -> {
                WavingDesks y = Twins.BUSY.make();
                y.restore();
                return y;
            }, WavingDesks::restore, true);
        });
        says(33, "False: there is none.", () -> {
            Twins.nothingChanges("restore()", Twins.NEW, WavingDesks::restore, false);
            Twins.Make without = () -> {
                WavingDesks x = Due.desks("clerk 0 0 0;unmoved 1 1 1;line 0 1 1;secret 1 0 0;");
                x.turn(0);
                x.burn(1, true);
                x.move(1);
                return x;
            };
            Twins.nothingChanges("restore()", without, WavingDesks::restore, false);
        });
    }
}
