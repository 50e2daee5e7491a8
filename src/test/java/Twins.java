import java.util.ArrayList;
import java.util.List;

/** Two objects made alike: one takes a call that must change nothing, then both are asked all there is to ask. */
final class Twins {
    interface Make {
        WavingDesks make();
    }

    interface Use {
        Object of(WavingDesks x);
    }

    private interface Look {
        void at(WavingDesks x, List<String> answers);
    }

    /** Of all kinds, with ACTS, PLANTED, SEEN, an image, a FAULT and a tape. */
    static final Make BUSY = () -> {
        WavingDesks x = Due.desks("clerk 0 0 0;chief 0 1 1;codist 1 0 0;double 1 1 2;unmoved 0 1 3;"
            + "line 0 1 3;line 1 2 2;line 2 3 4;line 3 0 1;line 0 4 5;line 4 2 1;"
            + "secret 5 0 0;secret 3 1 3;secret 2 0 2;grudge 0 1;grudge 2 3;tells same or kin or day=0;");
        x.turn(2);
        x.cut(4, true);
        x.plant(1, 4, 3);
        x.see(0, 4, 9, false);
        x.image();
        x.move(1);
        x.burn(3, true);
        x.plant(2, 0, 1);
        x.see(2, 0, 1, true);
        x.move(4);
        x.see(0, 0, 100, true);
        Due.tell(x, " clerk 0 7");
        Due.feed(x, "clerk 1 1 1; x");
        return x;
    };

    /** 40 ACTS and more, 4 PLANTED, 8 SEEN, and 700 bytes on the tape. */
    static final Make FULL = () -> {
        WavingDesks x = Due.desks("clerk 0 0 0;chief 0 1 1;unmoved 1 0 2;line 0 1 2;line 1 2 3;secret 5 0 0;secret 3 1 2;");
        x.image();
        for (int i = 0; i < 38; i++) {
            x.turn(i % 3);
        }
        for (int i = 0; i < 4; i++) {
            x.plant(i % 2, i % 3, 60 - i);
        }
        x.burn(1, true);
        for (int i = 0; i < 8; i++) {
            x.see(i % 2, i % 3, i, i < 4);
        }
        Due.feed(x, "clerk 1 1 1; x" + " ".repeat(686));
        return x;
    };

    /** Nobody, and nothing on the tape. */
    static final Make NEW = WavingDesks::new;

    private static final int AS_BEFORE = -2;
    private static final Look[] LOOKS = {Twins::counts, Twins::told, Twins::knowing, Twins::imagined, Twins::back};

    private Twins() {
    }

    static void nothingChanges(String call, Make make, Use use, Object due) {
        compare(call, make, use, due, 0, AS_BEFORE);
    }

    /** Nothing but one STATUS (13 to 15 of count), which is one more. */
    static void countsIn(int status, String call, Make make, Use use, Object due) {
        compare(call, make, use, due, status, AS_BEFORE);
    }

    /** Nothing but the STATUS of TEXTS and the FAULT's place. */
    static void fault(String text, Make make, int fault, int place) {
        compare("offices(" + text + ")", make, x -> Due.tell(x, text), fault, 13, place);
    }

    private static void compare(String call, Make make, Use use, Object due, int status, int place) {
        for (Look look : LOOKS) {
            WavingDesks one = make.make();
            WavingDesks other = make.make();
            Due.is(call, Due.answer(() -> use.of(one)), due);
            List<String> got = new ArrayList<>();
            List<String> want = new ArrayList<>();
            look.at(one, got);
            look.at(other, want);
            if (look == LOOKS[0] && status != 0) {
                want.set(status, "count(" + status + ") = " + (other.count(status) + 1));
            }
            if (look == LOOKS[0] && place != AS_BEFORE) {
                want.set(16, "fault() = " + place);
            }
            for (int i = 0; i < Math.max(got.size(), want.size()); i++) {
                String a = i < got.size() ? got.get(i) : "nothing";
                String b = i < want.size() ? want.get(i) : "nothing";
                Due.is("behind " + call, a, b);
            }
        }
    }

    private static void put(List<String> answers, String call, Object answer) {
        answers.add(call + " = " + answer);
    }

    private static void counts(WavingDesks x, List<String> answers) {
        for (int what = 0; what < 16; what++) {
            put(answers, "count(" + what + ")", x.count(what));
        }
        put(answers, "fault()", x.fault());
    }

    private static void told(WavingDesks x, List<String> answers) {
        for (int a = 0; a < x.count(0); a++) {
            for (int what = 0; what < 6; what++) {
                put(answers, "agent(" + a + ", " + what + ")", x.agent(a, what));
            }
        }
        for (int l = 0; l < x.count(1); l++) {
            for (int what = 0; what < 5; what++) {
                put(answers, "line(" + l + ", " + what + ")", x.line(l, what));
            }
        }
        for (int s = 0; s < x.count(2); s++) {
            for (int what = 0; what < 6; what++) {
                put(answers, "secret(" + s + ", " + what + ")", x.secret(s, what));
            }
        }
    }

    private static void knowing(WavingDesks x, List<String> answers) {
        for (int s = 0; s < x.count(2); s++) {
            for (int a = 0; a < x.count(0); a++) {
                for (int what = 0; what < 3; what++) {
                    put(answers, "knows(" + s + ", " + a + ", " + what + ")", x.knows(s, a, what));
                }
                for (int i = 0; i < x.knows(s, a, 2); i++) {
                    put(answers, "chain(" + s + ", " + a + ", " + i + ")", x.chain(s, a, i));
                }
            }
        }
        for (int day = 0; day < 12; day += 3) {
            put(answers, "known(0, " + day + ")", x.known(0, day));
            put(answers, "known(1, " + day + ")", x.known(1, day));
            put(answers, "waves(" + day + ")", x.waves(day));
        }
        put(answers, "farthest()", x.farthest());
    }

    private static void imagined(WavingDesks x, List<String> answers) {
        for (int a = 0; a < x.count(0); a++) {
            put(answers, "word(" + a + ")", x.word(a));
            put(answers, "heard(" + a + ", 2)", x.heard(a, 2));
            for (int b = 0; b < x.count(0); b++) {
                if (a != b) {
                    put(answers, "more(" + a + ", " + b + ")", x.more(a, b));
                }
            }
            for (int s = 0; s < x.count(2); s++) {
                put(answers, "silence(" + s + ", " + a + ")", x.silence(s, a));
            }
        }
        for (int l = 0; l < x.count(1); l++) {
            put(answers, "matters(" + l + ")", x.matters(l));
        }
        for (int s = 0; s < x.count(2); s++) {
            for (int what = 0; what < 3; what++) {
                put(answers, "who(" + s + ", " + what + ")", x.who(s, what));
            }
        }
        put(answers, "dearest()", x.dearest());
        for (int what = 0; what < 2; what++) {
            put(answers, "exchange(" + what + ")", x.exchange(what));
            put(answers, "game(" + what + ")", x.game(what));
            put(answers, "years(3, 9, " + what + ")", x.years(3, 9, what));
        }
        put(answers, "years(3, 9, 2)", x.years(3, 9, 2));
    }

    /** What can't be asked: the ACTS one by one, the image, and what stands on the tape. */
    private static void back(WavingDesks x, List<String> answers) {
        int left = x.count(10);
        int agents = x.count(0);
        for (int i = 0; i <= left; i++) {
            put(answers, "undo()", x.undo());
            put(answers, "BURNT, cut, PLANTED behind it", x.count(4) + " " + x.count(5) + " " + x.count(6));
            for (int a = 0; a < agents && (left < 20 || i % 4 == 0); a++) {
                put(answers, "SIDE and HIS of " + a, x.agent(a, 1) + " " + x.agent(a, 2));
            }
        }
        boolean again = x.restore();
        put(answers, "restore()", again);
        for (int what = 0; what < (again ? 16 : 13); what++) {
            put(answers, "count(" + what + ") of the image", x.count(what));
        }
        put(answers, "offices() of the tape", x.offices(x.count(12)));
        put(answers, "fault() of the tape", x.fault());
    }
}
