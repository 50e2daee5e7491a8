/** As much as can be told, planted, seen and done: every call with every number that it takes, as the plain model gives it. */
final class EdgesOfFull {
    private WavingDesks x;
    private Oracle o;
    private int calls = 0;

    private EdgesOfFull() {
    }

    static void run() {
        for (int sort = 0; sort < 3; sort++) {
            new EdgesOfFull().told(sort);
            new EdgesOfFull().knowing(sort);
            new EdgesOfFull().imagined(sort);
            new EdgesOfFull().couples(sort);
        }
    }

    private static String text(int sort) {
        String[] kinds = {"clerk", "chief", "codist", "double", "unmoved"};
        StringBuilder text = new StringBuilder();
        for (int i = 0; i < 8; i++) {
            text.append(kinds[(i * 2 + sort) % 5]).append(' ').append(i / 2 % 2).append(' ').append(i % 3 % 2).append(' ')
                .append(i % 4).append(';');
        }
        for (int i = 0; i < 16; i++) {
            int from = (i * 3 + sort) % 8;
            text.append("line ").append(from).append(' ').append((from + (i < 8 ? 1 : 3)) % 8).append(' ')
                .append(1 + i * 4 % 9).append(';');
        }
        for (int i = 0; i < 6; i++) {
            text.append("secret ").append(9 - i).append(' ').append(i % 2).append(' ').append((7 + i * 2) % 8).append(';');
        }
        text.append(EdgesOfTerms.grudges(8)).append(sort == 0 ? "" : "tells same or kin and own or worth<day;");
        return text.toString();
    }

    /** Full: 40 ACTS and more but for sort 0, 4 PLANTED, 8 SEEN. */
    private void make(int sort) {
        x = new WavingDesks();
        o = new Oracle();
        String text = text(sort);
        for (int at = 0; at < text.length(); at += 20) {
            int[] n = new int[5];
            for (int i = 0; i < 20; i++) {
                n[i / 4] = n[i / 4] << 8 | (at + i < text.length() ? text.charAt(at + i) : ' ');
            }
            same("feed", () -> x.feed(n[0], n[1], n[2], n[3], n[4]), () -> o.feed(n));
        }
        same("offices of " + text, () -> x.offices(text.length()), () -> o.offices(text.length()));
        Due.is("it has no FAULT", x.fault(), -1);
        for (int i = 0; i < 38 * Math.min(sort, 1); i++) {
            int a = i * 5 % 8;
            same("turn", () -> x.turn(a), () -> o.turn(a));
        }
        for (int i = 0; i < 4; i++) {
            int a = i * 2;
            int s = 5 - i;
            int day = sort * 20 + i;
            same("plant", () -> x.plant(s, a, day), () -> o.plant(s, a, day));
        }
        for (int i = 0; i < 8; i++) {
            int a = i;
            int s = (i + sort) % 6;
            same("see", () -> x.see(s, a, 99 - a * 9, a % 2 < 1), () -> o.see(s, a, 99 - a * 9, a % 2 < 1));
        }
        if (sort == 2) {
            same("burn", () -> x.burn(7, true), () -> o.burn(7, true));
            same("cut", () -> x.cut(15, true), () -> o.cut(15, true));
        }
    }

    private void same(String call, Due.Call got, Due.Call want) {
        calls++;
        Due.is(call, Due.answer(got), Due.answer(want));
    }

    private void told(int sort) {
        make(sort);
        for (int what = 0; what < 16; what++) {
            int w = what;
            same("count(" + w + ")", () -> x.count(w), () -> o.count(w));
        }
        for (int i = 0; i < 16 * 6; i++) {
            int n = i / 6;
            int w = i % 6;
            same("agent(" + n % 8 + ", " + w + ")", () -> x.agent(n % 8, w), () -> o.agent(n % 8, w));
            same("line(" + n + ", " + w + ")", () -> x.line(n, w), () -> o.line(n, w));
            same("secret(" + n % 6 + ", " + w + ")", () -> x.secret(n % 6, w), () -> o.secret(n % 6, w));
        }
        within512();
    }

    private void knowing(int sort) {
        make(sort);
        for (int i = 0; i < 48; i++) {
            int s = i / 8;
            int a = i % 8;
            for (int what = 0; what < 3; what++) {
                int w = what;
                same("knows(" + s + ", " + a + ", " + w + ")", () -> x.knows(s, a, w), () -> o.knows(s, a, w));
                same("chain(" + s + ", " + a + ", " + w + ")", () -> x.chain(s, a, w), () -> o.chain(s, a, w));
            }
        }
        for (int i = 0; i < 20; i++) {
            int day = i * 2;
            same("known(0, " + day + ")", () -> x.known(0, day), () -> o.known(0, day));
            same("known(1, " + day + ")", () -> x.known(1, day), () -> o.known(1, day));
            same("waves(" + day + ")", () -> x.waves(day), () -> o.waves(day));
        }
        within512();
    }

    private void imagined(int sort) {
        make(sort);
        for (int i = 0; i < 48; i++) {
            int s = i / 8;
            int a = i % 8;
            same("silence(" + s + ", " + a + ")", () -> x.silence(s, a), () -> o.silence(s, a));
            same("matters(" + i % 16 + ")", () -> x.matters(a + s % 2 * 8), () -> o.matters(a + s % 2 * 8));
            same("heard(" + a + ", " + s * 5 + ")", () -> x.heard(a, s * 5), () -> o.heard(a, s * 5));
        }
        for (int i = 0; i < 18; i++) {
            int s = i / 3;
            int w = i % 3;
            same("who(" + s + ", " + w + ")", () -> x.who(s, w), () -> o.who(s, w));
        }
        same("farthest()", () -> x.farthest(), () -> o.farthest());
        same("dearest()", () -> x.dearest(), () -> o.dearest());
        x.forget();
        o.forget();
        for (int s = 0; s < 6; s++) {
            int secret = s;
            same("who(" + s + ", 0)", () -> x.who(secret, 0), () -> o.who(secret, 0));
            same("see of the SOURCE", () -> x.see(secret, x.secret(secret, 2), 0, false),
                () -> o.see(secret, o.secret(secret, 2), 0, false));
            same("who(" + s + ", 1)", () -> x.who(secret, 1), () -> o.who(secret, 1));
        }
        within512();
    }

    private void couples(int sort) {
        make(sort);
        for (int i = 0; i < 64; i++) {
            int from = i / 8;
            int to = i % 8;
            same("more(" + from + ", " + to + ")", () -> x.more(from, to), () -> o.more(from, to));
        }
        for (int i = 0; i < 8; i++) {
            int a = i;
            same("word(" + a + ")", () -> x.word(a), () -> o.word(a));
            for (int what = 0; what < 3; what++) {
                int w = what;
                same("exchange(" + w + ")", () -> x.exchange(w), () -> o.exchange(w));
                same("game(" + w + ")", () -> x.game(w), () -> o.game(w));
                same("years(" + a + ", 40, " + w + ")", () -> x.years(a * 77, 40, w), () -> o.years(a * 77, 40, w));
            }
            same("turn(" + a + ")", () -> x.turn(a), () -> o.turn(a));
        }
        for (int i = 0; i < 41; i++) {
            same("undo()", () -> x.undo(), () -> o.undo());
            same("count(9)", () -> x.count(9), () -> o.count(9));
        }
        within512();
    }

    private void within512() {
        Due.is("an object is used for at most 512 calls, here " + calls, calls <= 512, true);
    }
}
