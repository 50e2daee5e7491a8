import java.util.Random;

/** All promises: random runs of calls, each answer as the plain model in Oracle gives it. */
public final class OracleTest {
    private static final int CALLS = 34;
    private static StringBuilder told;
    private static WavingDesks x;
    private static Oracle o;
    private static Random random;

    public static void main(String[] args) {
        int runs = args.length > 0 ? Integer.parseInt(args[0]) : 1200;
        int first = args.length > 1 ? Integer.parseInt(args[1]) : 0;
        int texts = 0;
        for (int run = first; run < first + runs; run++) {
            random = new Random(run);
            x = new WavingDesks();
            o = new Oracle();
            told = new StringBuilder("run " + run + ": ");
            int calls = random.nextInt(5) == 0 ? 400 : 120;
            for (int i = 0; i < calls; i++) {
                if (i == 0 || i % 90 == 89 && random.nextInt(2) == 0) {
                    tell(random.nextInt(8) == 0 ? RandomText.ofRule(random) : RandomText.of(random));
                }
                any();
            }
        }
        for (int run = 0; run < 20 * runs; run++) {
            random = new Random(run);
            x = new WavingDesks();
            o = new Oracle();
            told = new StringBuilder("text " + run + ": ");
            tell(run % 2 == 0 ? RandomText.ofRule(random) : RandomText.of(random));
            texts += x.fault() == WavingDesks.NONE ? 1 : 0;
        }
        if (texts < runs || texts > 19 * runs) {
            Due.is("texts without a fault are some and not all", texts, runs);
        }
        Due.end("OracleTest");
    }

    private static void same(String call, Due.Call got, Due.Call want) {
        Object due = Due.answer(want);
        Object answer = Due.answer(got);
        if (!answer.equals(due)) {
            System.out.println(told);
        }
        told.append(call).append(" = ").append(answer).append("; ");
        Due.is(call, answer, due);
    }

    private static void tell(String text) {
        for (int at = 0; at < text.length(); at += 20) {
            int[] n = new int[5];
            for (int i = 0; i < 20; i++) {
                int sign = at + i < text.length() ? text.charAt(at + i) & 255 : ' ';
                n[i / 4] = n[i / 4] << 8 | sign;
            }
            same("feed", () -> x.feed(n[0], n[1], n[2], n[3], n[4]), () -> o.feed(n));
        }
        same("offices{" + text + "}", () -> x.offices(text.length()), () -> o.offices(text.length()));
        same("fault()", () -> x.fault(), () -> o.fault());
    }

    /** Mostly one that is there. */
    private static int one(int many) {
        return random.nextInt(25) == 0 ? random.nextInt(20) - 3 : random.nextInt(Math.max(1, many));
    }

    private static int what(int most) {
        return random.nextInt(25) == 0 ? random.nextInt(20) - 2 : random.nextInt(most + 1);
    }

    private static int day(int most) {
        int[] odd = {Integer.MIN_VALUE, -1, 0, most, most + 1, Integer.MAX_VALUE};
        return random.nextInt(12) == 0 ? odd[random.nextInt(6)] : random.nextInt(Math.min(30, most + 1));
    }

    private static void any() {
        int a = one(o.agents.size());
        int b = one(o.agents.size());
        int l = one(o.lines.size());
        int s = one(o.secrets.size());
        boolean yes = random.nextInt(3) > 0;
        int sort = random.nextInt(CALLS);
        if (sort < 17) {
            ask(sort, a, l, s);
        } else if (sort < 26) {
            act(sort, a, l, s, yes);
        } else {
            imagine(sort, a, b, l, s);
        }
    }

    private static void ask(int sort, int a, int l, int s) {
        int w = what(15);
        int w5 = what(5);
        int w2 = what(2);
        int w1 = what(1);
        int d = day(99);
        int refused = d < 0 ? d : Math.max(d, 701);
        switch (sort) {
            case 0, 1 -> same("count(" + w + ")", () -> x.count(w), () -> o.count(w));
            case 2 -> same("agent(" + a + "," + w5 + ")", () -> x.agent(a, w5), () -> o.agent(a, w5));
            case 3, 4 -> same("line(" + l + "," + w5 + ")", () -> x.line(l, w5), () -> o.line(l, w5));
            case 5 -> same("secret(" + s + "," + w5 + ")", () -> x.secret(s, w5), () -> o.secret(s, w5));
            case 6, 7 -> same("knows(" + s + "," + a + "," + w2 + ")", () -> x.knows(s, a, w2), () -> o.knows(s, a, w2));
            case 8, 9 -> same("chain(" + s + "," + a + "," + w5 + ")", () -> x.chain(s, a, w5), () -> o.chain(s, a, w5));
            case 10 -> same("known(" + w1 + "," + d + ")", () -> x.known(w1, d), () -> o.known(w1, d));
            case 11 -> same("heard(" + a + "," + d + ")", () -> x.heard(a, d), () -> o.heard(a, d));
            case 12 -> same("waves(" + d + ")", () -> x.waves(d), () -> o.waves(d));
            case 13 -> same("farthest()", () -> x.farthest(), () -> o.farthest());
            case 14 -> same("fault()", () -> x.fault(), () -> o.fault());
            case 15 -> same("offices(" + refused + ")", () -> x.offices(refused), () -> o.offices(refused));
            default -> same("exchange(" + w1 + ")", () -> x.exchange(w1), () -> o.exchange(w1));
        }
    }

    private static void act(int sort, int a, int l, int s, boolean yes) {
        int d = day(60);
        int e = day(99);
        switch (sort) {
            case 17 -> same("turn(" + a + ")", () -> x.turn(a), () -> o.turn(a));
            case 18 -> same("move(" + a + ")", () -> x.move(a), () -> o.move(a));
            case 19 -> same("burn(" + a + "," + yes + ")", () -> x.burn(a, yes), () -> o.burn(a, yes));
            case 20 -> same("cut(" + l + "," + yes + ")", () -> x.cut(l, yes), () -> o.cut(l, yes));
            case 21 -> same("plant(" + s + "," + a + "," + d + ")", () -> x.plant(s, a, d), () -> o.plant(s, a, d));
            case 22 -> same("undo()", () -> x.undo(), () -> o.undo());
            case 23 -> same("see(" + s + "," + a + "," + e + "," + yes + ")", () -> x.see(s, a, e, yes),
                () -> o.see(s, a, e, yes));
            case 24 -> {
                if (random.nextInt(2) == 0) {
                    same("restore()", () -> x.restore(), () -> o.restore());
                }
            }
            default -> {
                if (random.nextInt(3) == 0) {
                    told.append("image(); ");
                    x.image();
                    o.image();
                } else if (random.nextInt(2) == 0) {
                    told.append("forget(); ");
                    x.forget();
                    o.forget();
                }
            }
        }
    }

    private static void imagine(int sort, int a, int b, int l, int s) {
        int w2 = what(2);
        int w1 = what(1);
        int seed = random.nextInt();
        int n = random.nextInt(20) == 0 ? random.nextInt(50) - 5 : random.nextInt(6);
        switch (sort) {
            case 26 -> same("silence(" + s + "," + a + ")", () -> x.silence(s, a), () -> o.silence(s, a));
            case 27 -> same("matters(" + l + ")", () -> x.matters(l), () -> o.matters(l));
            case 28 -> same("dearest()", () -> x.dearest(), () -> o.dearest());
            case 29 -> same("more(" + a + "," + b + ")", () -> x.more(a, b), () -> o.more(a, b));
            case 30 -> same("word(" + a + ")", () -> x.word(a), () -> o.word(a));
            case 31 -> same("who(" + s + "," + w2 + ")", () -> x.who(s, w2), () -> o.who(s, w2));
            case 32 -> {
                if (random.nextInt(3) == 0) {
                    same("game(" + w1 + ")", () -> x.game(w1), () -> o.game(w1));
                }
            }
            default -> same("years(" + seed + "," + n + "," + w2 + ")", () -> x.years(seed, n, w2),
                () -> o.years(seed, n, w2));
        }
    }
}
