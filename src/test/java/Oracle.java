import java.util.ArrayDeque;
import java.util.ArrayList;
import java.util.Arrays;
import java.util.Deque;
import java.util.List;
import java.util.NoSuchElementException;
import java.util.TreeMap;
import java.util.function.ToIntFunction;

/** The document once more, told as plainly as can be and day by day: random runs are compared with it. */
final class Oracle {
    static final int NONE = -1;
    private static final List<String> KINDS = List.of("clerk", "chief", "codist", "double", "unmoved");
    private static final List<String> VALUES =
        List.of("worth", "from", "to", "same", "loyal", "kin", "day", "own");

    record Agent(int kind, int side, int his, int family, boolean burnt) {
        Agent turned() {
            return new Agent(kind, side, 1 - his, family, burnt);
        }

        Agent moved() {
            return kind == 4 ? this : new Agent(kind, 1 - side, his, family, burnt);
        }

        Agent burnt(boolean b) {
            return new Agent(kind, side, his, family, b);
        }
    }

    record Line(int from, int to, int days, boolean cut) {
    }

    record Secret(int worth, int side, int source) {
    }

    record Grudge(int one, int other) {
    }

    record Plant(int secret, int agent, int day) {
    }

    record Sight(int secret, int agent, int day, boolean knew) {
    }

    record Known(int day, int from) {
    }

    private static final class Fault extends RuntimeException {
        private static final long serialVersionUID = 1L;
        final int number;
        final int place;

        Fault(int number, int place) {
            this.number = number;
            this.place = place;
        }
    }

    private StringBuilder tape = new StringBuilder();
    private int faultPlace = NONE;
    List<Agent> agents = new ArrayList<>();
    List<Line> lines = new ArrayList<>();
    List<Secret> secrets = new ArrayList<>();
    List<Grudge> grudges = new ArrayList<>();
    ToIntFunction<int[]> rule = null;
    List<Plant> plants = new ArrayList<>();
    List<Sight> seen = new ArrayList<>();
    /** What stood before each act. */
    Deque<Object[]> acts = new ArrayDeque<>();
    int[] status = new int[3];
    private Object[] image = null;

    private Oracle copy() {
        Oracle o = new Oracle();
        o.agents = new ArrayList<>(agents);
        o.lines = new ArrayList<>(lines);
        o.secrets = secrets;
        o.grudges = grudges;
        o.rule = rule;
        o.plants = new ArrayList<>(plants);
        o.seen = new ArrayList<>(seen);
        return o;
    }

    private Object[] snapshot() {
        return new Object[] {List.copyOf(agents), List.copyOf(lines), List.copyOf(plants)};
    }

    @SuppressWarnings("unchecked")
    private void back(Object[] s) {
        agents = new ArrayList<>((List<Agent>) s[0]);
        lines = new ArrayList<>((List<Line>) s[1]);
        plants = new ArrayList<>((List<Plant>) s[2]);
    }

    // ---- the text

    private record Token(String text, int at) {
        /** w a word, n a number, $ the end, a sign itself, ? none. */
        char sort() {
            if (text.isEmpty()) {
                return '$';
            }
            char c = text.charAt(0);
            if (c >= 'a' && c <= 'z') {
                return 'w';
            }
            if (c >= '0' && c <= '9') {
                return 'n';
            }
            return ";()+-*/<=".indexOf(c) < 0 ? '?' : c;
        }
    }

    private final class Parser {
        final List<Token> tokens = new ArrayList<>();
        int at = 0;
        final Oracle out = new Oracle();

        Parser(String text) {
            java.util.regex.Matcher m =
                java.util.regex.Pattern.compile("[a-z]+|[0-9]+|[^ \\n]", java.util.regex.Pattern.DOTALL).matcher(text);
            while (m.find()) {
                tokens.add(new Token(m.group(), m.start()));
            }
            tokens.add(new Token("", text.length()));
        }

        Token here() {
            return tokens.get(at);
        }

        boolean is(String word) {
            return here().text.equals(word);
        }

        Fault bad(int number) {
            return new Fault(number, here().at);
        }

        void need(String sign) {
            if (!is(sign)) {
                throw bad(1);
            }
            at++;
        }

        int num(int least, int most) {
            if (here().sort() != 'n') {
                throw bad(1);
            }
            if (here().text.length() > 4) {
                throw bad(2);
            }
            int v = Integer.parseInt(here().text);
            if (v < least || v > most) {
                throw bad(2);
            }
            at++;
            return v;
        }

        int who() {
            int v = num(0, 9999);
            if (v >= out.agents.size()) {
                at--;
                throw bad(3);
            }
            return v;
        }

        void all() {
            while (here().sort() != '$') {
                one();
                need(";");
            }
        }

        void one() {
            int kind = KINDS.indexOf(here().text);
            if (kind >= 0) {
                full(out.agents.size(), 8);
                out.agents.add(new Agent(kind, num(0, 1), num(0, 1), num(0, 3), false));
            } else if (is("line")) {
                full(out.lines.size(), 16);
                int a = who();
                int b = who();
                if (a == b || out.lines.stream().anyMatch(l -> l.from == a && l.to == b)) {
                    at--;
                    throw bad(4);
                }
                out.lines.add(new Line(a, b, num(1, 9), false));
            } else if (is("secret")) {
                full(out.secrets.size(), 6);
                out.secrets.add(new Secret(num(0, 9), num(0, 1), who()));
            } else if (is("grudge")) {
                full(out.grudges.size(), 8);
                int a = who();
                int b = who();
                if (a == b || out.grudges.contains(new Grudge(a, b)) || out.grudges.contains(new Grudge(b, a))) {
                    at--;
                    throw bad(4);
                }
                out.grudges.add(new Grudge(a, b));
            } else if (is("tells")) {
                if (out.rule != null) {
                    throw bad(5);
                }
                at++;
                out.rule = expr(0);
            } else {
                throw bad(1);
            }
        }

        void full(int size, int most) {
            if (size == most) {
                throw bad(2);
            }
            at++;
        }

        ToIntFunction<int[]> expr(int within) {
            if (within == 6 && "wn(".indexOf(here().sort()) >= 0) {
                throw bad(2);
            }
            ToIntFunction<int[]> l = and(within);
            while (is("or")) {
                at++;
                ToIntFunction<int[]> a = l;
                ToIntFunction<int[]> b = and(within);
                l = v -> a.applyAsInt(v) != 0 | b.applyAsInt(v) != 0 ? 1 : 0;
            }
            return l;
        }

        ToIntFunction<int[]> and(int within) {
            ToIntFunction<int[]> l = not(within, 1);
            while (is("and")) {
                at++;
                ToIntFunction<int[]> a = l;
                ToIntFunction<int[]> b = not(within, 1);
                l = v -> a.applyAsInt(v) != 0 & b.applyAsInt(v) != 0 ? 1 : 0;
            }
            return l;
        }

        ToIntFunction<int[]> not(int within, int nth) {
            if (is("not")) {
                if (nth == 7) {
                    throw bad(2);
                }
                at++;
                ToIntFunction<int[]> a = not(within, nth + 1);
                return v -> a.applyAsInt(v) == 0 ? 1 : 0;
            }
            ToIntFunction<int[]> a = sum(within);
            if (is("<")) {
                at++;
                ToIntFunction<int[]> b = sum(within);
                return v -> a.applyAsInt(v) < b.applyAsInt(v) ? 1 : 0;
            }
            if (is("=")) {
                at++;
                ToIntFunction<int[]> b = sum(within);
                return v -> a.applyAsInt(v) == b.applyAsInt(v) ? 1 : 0;
            }
            return a;
        }

        ToIntFunction<int[]> sum(int within) {
            ToIntFunction<int[]> l = product(within);
            while (is("+") || is("-")) {
                boolean plus = is("+");
                at++;
                ToIntFunction<int[]> a = l;
                ToIntFunction<int[]> b = product(within);
                l = v -> plus ? a.applyAsInt(v) + b.applyAsInt(v) : a.applyAsInt(v) - b.applyAsInt(v);
            }
            return l;
        }

        ToIntFunction<int[]> product(int within) {
            ToIntFunction<int[]> l = part(within);
            while (is("*") || is("/")) {
                boolean times = is("*");
                at++;
                ToIntFunction<int[]> a = l;
                ToIntFunction<int[]> b = part(within);
                l = v -> {
                    long x = a.applyAsInt(v);
                    long y = b.applyAsInt(v);
                    return (int) (times ? x * y : y == 0 ? 0 : x / y);
                };
            }
            return l;
        }

        ToIntFunction<int[]> part(int within) {
            if (here().sort() == 'n') {
                int n = num(0, 9999);
                return v -> n;
            }
            if (here().sort() == 'w') {
                int i = VALUES.indexOf(here().text);
                if (i < 0) {
                    throw bad(3);
                }
                at++;
                return v -> v[i];
            }
            need("(");
            ToIntFunction<int[]> a = expr(within + 1);
            need(")");
            return a;
        }
    }

    // ---- who knows what

    private boolean same(Agent a, Agent b) {
        return a.kind == 4 || b.kind == 4 || a.side == b.side;
    }

    private boolean tells(int s, int a, int b, int day) {
        Agent from = agents.get(a);
        Agent to = agents.get(b);
        Secret secret = secrets.get(s);
        if (from.burnt) {
            return false;
        }
        if (from.kind == 3) {
            return true;
        }
        if (rule == null) {
            return same(from, to);
        }
        boolean loyal = from.kind == 4 || to.kind == 4 || to.side == from.his;
        return rule.applyAsInt(new int[] {secret.worth, from.kind, to.kind, same(from, to) ? 1 : 0, loyal ? 1 : 0,
            from.family == to.family ? 1 : 0, day, secret.side == from.his ? 1 : 0}) > 0;
    }

    /** Day by day: who hears on it, or knows it by himself, then tells. */
    Known[] spread(int s) {
        Known[] known = new Known[agents.size()];
        TreeMap<Integer, List<int[]>> underway = new TreeMap<>();
        for (int day = 0; day < 160; day++) {
            List<Integer> fresh = new ArrayList<>();
            for (int a = 0; a < agents.size(); a++) {
                if (known[a] != null) {
                    continue;
                }
                boolean himself = day == 0 && secrets.get(s).source == a || plants.contains(new Plant(s, a, day));
                int from = 99;
                for (int[] word : underway.getOrDefault(day, List.of())) {
                    if (word[1] == a && !agents.get(a).burnt) {
                        from = Math.min(from, word[0]);
                    }
                }
                if (himself || from < 99) {
                    known[a] = new Known(day, himself ? NONE : from);
                    fresh.add(a);
                }
            }
            for (int a : fresh) {
                for (Line l : lines) {
                    if (l.from == a && !l.cut && tells(s, a, l.to, day)) {
                        int later = l.days;
                        if (agents.get(l.to).kind == 1) {
                            later--;
                        }
                        if (agents.get(a).kind == 2) {
                            later++;
                        }
                        underway.computeIfAbsent(day + Math.max(1, later), k -> new ArrayList<>())
                            .add(new int[] {a, l.to});
                    }
                }
            }
        }
        return known;
    }

    private int couples() {
        int n = 0;
        for (int s = 0; s < secrets.size(); s++) {
            n += secret(s, 5);
        }
        return n;
    }

    private int leakWorth() {
        return count(8);
    }

    private void needAgent(int a) {
        if (a < 0 || a >= agents.size()) {
            throw new NoSuchElementException();
        }
    }

    private void needSecret(int s) {
        if (s < 0 || s >= secrets.size()) {
            throw new NoSuchElementException();
        }
    }

    private void needLine(int l) {
        if (l < 0 || l >= lines.size()) {
            throw new NoSuchElementException();
        }
    }

    private void needWhat(int what, int most) {
        if (what < 0 || what > most) {
            throw new NoSuchElementException();
        }
    }

    // ---- the face

    int feed(int... numbers) {
        if (tape.length() + 20 > 700) {
            return NONE;
        }
        for (int n : numbers) {
            for (int i = 3; i >= 0; i--) {
                tape.append((char) (n >> 8 * i & 255));
            }
        }
        return tape.length();
    }

    int offices(int n) {
        if (n < 0 || n > tape.length()) {
            throw new IllegalArgumentException();
        }
        String text = tape.substring(0, n);
        tape = new StringBuilder();
        Parser p = new Parser(text);
        try {
            p.all();
        } catch (Fault f) {
            faultPlace = f.place;
            status[0]++;
            return f.number;
        }
        faultPlace = NONE;
        agents = p.out.agents;
        lines = p.out.lines;
        secrets = p.out.secrets;
        grudges = p.out.grudges;
        rule = p.out.rule;
        plants.clear();
        seen.clear();
        acts.clear();
        image = null;
        return 0;
    }

    int fault() {
        return faultPlace;
    }

    int count(int what) {
        int bits = 0;
        int worth = 0;
        for (int s = 0; s < secrets.size(); s++) {
            if (secret(s, 3) != NONE) {
                bits |= 1 << s;
                worth += secrets.get(s).worth;
            }
        }
        int burnt = 0;
        for (int a = 0; a < agents.size(); a++) {
            burnt += agents.get(a).burnt ? 1 << a : 0;
        }
        int cut = 0;
        for (int l = 0; l < lines.size(); l++) {
            cut += lines.get(l).cut ? 1 << l : 0;
        }
        needWhat(what, 15);
        return new int[] {agents.size(), lines.size(), secrets.size(), grudges.size(), burnt, cut, plants.size(), bits,
            worth, couples(), acts.size(), seen.size(), tape.length(), status[0], status[1], status[2]}[what];
    }

    int agent(int a, int what) {
        needAgent(a);
        needWhat(what, 5);
        Agent g = agents.get(a);
        return new int[] {g.kind, g.side, g.his, g.family, heard(a, 9999), g.burnt ? 1 : 0}[what];
    }

    int line(int l, int what) {
        needLine(l);
        needWhat(what, 4);
        Line line = lines.get(l);
        int bits = 0;
        for (int s = 0; s < secrets.size(); s++) {
            Known k = spread(s)[line.from];
            if (k != null && !line.cut && !agents.get(line.to).burnt && tells(s, line.from, line.to, k.day)) {
                bits |= 1 << s;
            }
        }
        return new int[] {line.from, line.to, line.days, line.cut ? 1 : 0, bits}[what];
    }

    int secret(int s, int what) {
        needSecret(s);
        needWhat(what, 5);
        Secret x = secrets.get(s);
        Known[] known = spread(s);
        int leak = 9999;
        int whom = NONE;
        int many = 0;
        for (int a = 0; a < known.length; a++) {
            if (known[a] != null) {
                many++;
                if (agents.get(a).his != x.side && known[a].day < leak) {
                    leak = known[a].day;
                    whom = a;
                }
            }
        }
        return new int[] {x.worth, x.side, x.source, whom == NONE ? NONE : leak, whom, many}[what];
    }

    private List<Integer> chainOf(int s, int a) {
        Known[] known = spread(s);
        List<Integer> chain = new ArrayList<>();
        if (known[a] != null) {
            for (int one = a; one != NONE; one = known[one].from) {
                chain.add(0, one);
            }
        }
        return chain;
    }

    int knows(int s, int a, int what) {
        needSecret(s);
        needAgent(a);
        needWhat(what, 2);
        Known k = spread(s)[a];
        return what == 2 ? chainOf(s, a).size() : k == null ? NONE : what == 0 ? k.day : k.from;
    }

    int chain(int s, int a, int i) {
        needSecret(s);
        needAgent(a);
        List<Integer> chain = chainOf(s, a);
        if (i < 0 || i >= chain.size()) {
            throw new NoSuchElementException();
        }
        return chain.get(i);
    }

    int known(int side, int day) {
        needWhat(side, 1);
        int sum = 0;
        for (int s = 0; s < secrets.size(); s++) {
            boolean by = false;
            for (int a = 0; a < agents.size(); a++) {
                by |= agents.get(a).his == side && (heard(a, day) >> s & 1) == 1;
            }
            sum += by ? secrets.get(s).worth : 0;
        }
        return sum;
    }

    private void keep() {
        acts.addLast(snapshot());
        if (acts.size() > 40) {
            acts.removeFirst();
        }
    }

    int turn(int a) {
        needAgent(a);
        keep();
        int was = agents.get(a).his;
        agents.set(a, agents.get(a).turned());
        return was;
    }

    int move(int a) {
        needAgent(a);
        if (agents.get(a).kind == 4) {
            status[1]++;
            return NONE;
        }
        keep();
        int was = agents.get(a).side;
        agents.set(a, agents.get(a).moved());
        return was;
    }

    boolean burn(int a, boolean burnt) {
        needAgent(a);
        if (agents.get(a).burnt == burnt) {
            status[1]++;
            return false;
        }
        keep();
        agents.set(a, agents.get(a).burnt(burnt));
        return true;
    }

    boolean cut(int l, boolean cut) {
        needLine(l);
        Line x = lines.get(l);
        if (x.cut == cut) {
            status[1]++;
            return false;
        }
        keep();
        lines.set(l, new Line(x.from, x.to, x.days, cut));
        return true;
    }

    int plant(int s, int a, int day) {
        needSecret(s);
        needAgent(a);
        if (plants.size() == 4 || day < 0 || day > 60) {
            status[1]++;
            return NONE;
        }
        keep();
        plants.add(new Plant(s, a, day));
        return plants.size();
    }

    int undo() {
        if (acts.isEmpty()) {
            return NONE;
        }
        back(acts.removeLast());
        return acts.size();
    }

    int silence(int s, int a) {
        needSecret(s);
        needAgent(a);
        Known[] known = spread(s);
        if (known[a] != null && known[a].from == NONE) {
            return NONE;
        }
        for (int size = 0; size <= 8; size++) {
            for (int set = 0; set < 1 << agents.size(); set++) {
                if (Integer.bitCount(set) != size) {
                    continue;
                }
                boolean may = (set >> a & 1) == 0;
                Oracle o = copy();
                for (int b = 0; b < known.length; b++) {
                    if ((set >> b & 1) == 1) {
                        may &= !agents.get(b).burnt && !(known[b] != null && known[b].from == NONE);
                        o.agents.set(b, agents.get(b).burnt(true));
                    }
                }
                if (may && o.spread(s)[a] == null) {
                    return set;
                }
            }
        }
        return NONE;
    }

    int matters(int l) {
        needLine(l);
        Oracle o = copy();
        Line x = lines.get(l);
        o.lines.set(l, new Line(x.from, x.to, x.days, true));
        return leakWorth() - o.leakWorth();
    }

    int dearest() {
        int best = NONE;
        for (int l = 0; l < lines.size(); l++) {
            if (best == NONE || matters(l) > matters(best)) {
                best = l;
            }
        }
        return best;
    }

    int heard(int a, int day) {
        needAgent(a);
        int bits = 0;
        for (int s = 0; s < secrets.size(); s++) {
            Known k = spread(s)[a];
            bits |= k != null && k.day <= day ? 1 << s : 0;
        }
        return bits;
    }

    int more(int from, int to) {
        needAgent(from);
        needAgent(to);
        if (from == to) {
            throw new IllegalArgumentException();
        }
        Oracle o = copy();
        o.lines.add(new Line(from, to, 1, false));
        return o.couples() - couples();
    }

    int word(int a) {
        needAgent(a);
        Oracle o = copy();
        o.agents.set(a, agents.get(a).burnt(true));
        return couples() - o.couples();
    }

    int exchange(int what) {
        needWhat(what, 1);
        int best = -9999;
        int which = NONE;
        for (int set = 0; set < 16; set++) {
            List<Agent> then = new ArrayList<>();
            int sum = 0;
            for (Agent g : agents) {
                Agent t = (set >> g.family & 1) == 1 ? g.moved() : g;
                then.add(t);
                sum += t.kind == 4 || t.side == t.his ? 1 : 0;
            }
            for (Grudge g : grudges) {
                sum -= same(then.get(g.one), then.get(g.other)) ? 1 : 0;
            }
            if (sum > best) {
                best = sum;
                which = set;
            }
        }
        return what == 0 ? best : which;
    }

    int waves(int day) {
        int n = 0;
        for (int a = 0; a < agents.size(); a++) {
            for (int b = 0; b < a; b++) {
                n += !same(agents.get(a), agents.get(b))
                    && Integer.bitCount(heard(a, day)) == Integer.bitCount(heard(b, day)) ? 1 : 0;
            }
        }
        return n;
    }

    int farthest() {
        int last = NONE;
        for (int s = 0; s < secrets.size(); s++) {
            for (Known k : spread(s)) {
                last = k == null ? last : Math.max(last, k.day);
            }
        }
        return last;
    }

    int see(int s, int a, int day, boolean knew) {
        needSecret(s);
        needAgent(a);
        if (seen.size() == 8 || day < 0 || day > 99) {
            status[2]++;
            return NONE;
        }
        seen.add(new Sight(s, a, day, knew));
        return seen.size();
    }

    private boolean asSeen() {
        for (Sight x : seen) {
            if (((heard(x.agent, x.day) >> x.secret & 1) == 1) != x.knew) {
                return false;
            }
        }
        return true;
    }

    int who(int s, int what) {
        needSecret(s);
        needWhat(what, 2);
        if (what == 2) {
            return asSeen() ? 1 : 0;
        }
        int n = 0;
        int first = NONE;
        for (int a = 0; a < agents.size(); a++) {
            for (int day = 0; day <= 20; day++) {
                Oracle o = copy();
                o.plants.add(new Plant(s, a, day));
                if (o.asSeen()) {
                    n++;
                    first = first == NONE ? 100 * a + day : first;
                }
            }
        }
        return what == 0 ? n : first;
    }

    void forget() {
        seen.clear();
    }

    private boolean sits(int a, int side) {
        return a == NONE || agents.get(a).kind == 4 || agents.get(a).side == side;
    }

    private int gain(int a, int b, int side) {
        Oracle o = copy();
        for (int x : new int[] {a, b}) {
            if (x != NONE) {
                o.agents.set(x, agents.get(x).burnt(true));
            }
        }
        int sum = 0;
        for (int s = 0; s < secrets.size(); s++) {
            if (o.secret(s, 3) != NONE) {
                sum += secrets.get(s).side == side ? -secrets.get(s).worth : secrets.get(s).worth;
            }
        }
        return sum;
    }

    int game(int what) {
        needWhat(what, 1);
        int m = agents.size();
        int n = 0;
        int first = NONE;
        int[][][] gains = new int[2][m + 1][m + 1];
        for (int a = NONE; a < m; a++) {
            for (int b = NONE; b < m; b++) {
                gains[0][a + 1][b + 1] = gain(a, b, 0);
                gains[1][a + 1][b + 1] = gain(a, b, 1);
            }
        }
        for (int a = NONE; a < m; a++) {
            for (int b = NONE; b < m; b++) {
                boolean rests = sits(a, 0) && sits(b, 1);
                for (int c = NONE; c < m; c++) {
                    rests &= !(sits(c, 0) && gains[0][c + 1][b + 1] > gains[0][a + 1][b + 1]);
                    rests &= !(sits(c, 1) && gains[1][a + 1][c + 1] > gains[1][a + 1][b + 1]);
                }
                if (rests) {
                    n++;
                    first = first == NONE ? 10 * (a + 1) + b + 1 : first;
                }
            }
        }
        return what == 0 ? n : first;
    }

    private int seed;

    private int draw(int n) {
        seed = seed * 1103515245 + 12345;
        return (seed >> 16 & 0x7fff) % n;
    }

    int years(int seed, int n, int what) {
        needWhat(what, 2);
        if (n < 0 || n > 40) {
            throw new IllegalArgumentException();
        }
        Oracle o = copy();
        o.seed = seed;
        int[] worth = new int[n];
        int none = 0;
        for (int y = 0; y < n; y++) {
            if (!agents.isEmpty()) {
                int a = o.draw(agents.size());
                Agent g = o.agents.get(a);
                int what4 = o.draw(4);
                o.agents.set(a, what4 == 0 ? g.turned() : what4 == 1 ? g.moved() : what4 == 2 ? g.burnt(!g.burnt) : g);
            }
            worth[y] = o.leakWorth();
            none += o.count(7) == 0 ? 1 : 0;
        }
        int sum = Arrays.stream(worth).sum();
        return what == 0 ? sum : what == 1 ? Arrays.stream(worth).min().orElse(0) : none;
    }

    void image() {
        image = new Object[] {snapshot(), new ArrayDeque<>(acts), List.copyOf(seen), status.clone()};
    }

    @SuppressWarnings("unchecked")
    boolean restore() {
        if (image == null) {
            return false;
        }
        back((Object[]) image[0]);
        acts = new ArrayDeque<>((Deque<Object[]>) image[1]);
        seen = new ArrayList<>((List<Sight>) image[2]);
        status = ((int[]) image[3]).clone();
        return true;
    }
}
