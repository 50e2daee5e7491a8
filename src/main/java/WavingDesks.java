import java.util.NoSuchElementException;

/** Two offices that were exchanged whole: who knows which secret when, and what would be if. */
public final class WavingDesks {
    public static final int NONE = -1;

    private static final int MOST_BYTES = 700;
    private static final int MOST_AGENTS = 8;
    private static final int MOST_LINES = 16;
    private static final int MOST_SECRETS = 6;
    private static final int MOST_GRUDGES = 8;
    private static final int MOST_PLANTS = 4;
    private static final int MOST_ACTS = 40;
    private static final int MOST_SEEN = 8;
    private static final int MOST_YEARS = 40;
    private static final int MOST_DEPTH = 6;
    private static final int MOST_NOTS = 6;
    private static final int MOST_DIGITS = 4;

    private static final int LAST_PLANT_DAY = 60;
    private static final int LAST_SEEN_DAY = 99;
    private static final int LAST_WHO_DAY = 20;
    private static final int EVER = 2147483647;
    private static final int FAMILY_SETS = 16;
    private static final int CHOICES = MOST_AGENTS + 1;

    private static final int KINDS = 5;
    private static final int CHIEF = 1;
    private static final int CODIST = 2;
    private static final int DOUBLE = 3;
    private static final int UNMOVED = 4;

    // The first three are also what a YEAR draws, in its order.
    private static final int TURN = 0;
    private static final int MOVE = 1;
    private static final int BURN = 2;
    private static final int CUT = 3;
    private static final int PLANT = 4;

    private static final int REFUSED_TEXT = 0;
    private static final int REFUSED_ACT = 1;
    private static final int REFUSED_SEEN = 2;

    private final byte[] tape = new byte[MOST_BYTES];
    private int tapeLength = 0;
    private int faultPlace = NONE;
    private final Offices told = new Offices();
    private final Reader reader = new Reader(tape);
    private final State state = new State();
    private final State kept = new State();
    private boolean imaged = false;
    private final News news = new News(told, state.setting);
    private final WhatIf whatIf = new WhatIf(told, state.setting, news);

    public WavingDesks() {
    }

    public int feed(int a, int b, int c, int d, int e) {
        if (tapeLength + 20 > MOST_BYTES) {
            return NONE;
        }
        putBytes(a);
        putBytes(b);
        putBytes(c);
        putBytes(d);
        putBytes(e);
        return tapeLength;
    }

    public int offices(int n) throws IllegalArgumentException {
        if (n < 0 || n > tapeLength) {
            throw new IllegalArgumentException("the tape has not so many bytes");
        }
        tapeLength = 0;
        int fault = reader.read(n);
        if (fault != 0) {
            faultPlace = reader.place;
            state.refuse(REFUSED_TEXT);
            return fault;
        }
        faultPlace = NONE;
        told.copyFrom(reader.draft);
        state.startWith(told);
        imaged = false;
        news.spreadAll();
        return 0;
    }

    public int fault() {
        return faultPlace;
    }

    public int count(int what) throws NoSuchElementException {
        switch (what) {
            case 0:
                return told.agents;
            case 1:
                return told.lines;
            case 2:
                return told.secrets;
            case 3:
                return told.grudges;
            case 4:
                return state.setting.burnt;
            case 5:
                return state.setting.cuts;
            case 6:
                return state.setting.plants;
            case 7:
                return news.leakedBits();
            case 8:
                return news.leakedWorth();
            case 9:
                return news.couples();
            case 10:
                return state.acts.size;
            case 11:
                return state.seen.size;
            case 12:
                return tapeLength;
            case 13:
                return state.status[REFUSED_TEXT];
            case 14:
                return state.status[REFUSED_ACT];
            case 15:
                return state.status[REFUSED_SEEN];
            default:
                throw new NoSuchElementException("no such what");
        }
    }

    public int agent(int agent, int what) throws NoSuchElementException {
        needAgent(agent);
        switch (what) {
            case 0:
                return told.kind[agent];
            case 1:
                return state.setting.side[agent];
            case 2:
                return state.setting.his[agent];
            case 3:
                return told.family[agent];
            case 4:
                return news.heardBits(agent, EVER);
            case 5:
                return state.setting.isBurnt(agent) ? 1 : 0;
            default:
                throw new NoSuchElementException("no such what");
        }
    }

    public int line(int line, int what) throws NoSuchElementException {
        needLine(line);
        switch (what) {
            case 0:
                return told.lineFrom[line];
            case 1:
                return told.lineTo[line];
            case 2:
                return told.lineDays[line];
            case 3:
                return state.setting.isCut(line) ? 1 : 0;
            case 4:
                return news.toldBits(line);
            default:
                throw new NoSuchElementException("no such what");
        }
    }

    public int secret(int secret, int what) throws NoSuchElementException {
        needSecret(secret);
        switch (what) {
            case 0:
                return told.worth[secret];
            case 1:
                return told.whose[secret];
            case 2:
                return told.source[secret];
            case 3:
                return news.leakDay(secret);
            case 4:
                return news.leakedTo(secret);
            case 5:
                return news.knowers(secret);
            default:
                throw new NoSuchElementException("no such what");
        }
    }

    public int knows(int secret, int agent, int what) throws NoSuchElementException {
        needSecret(secret);
        needAgent(agent);
        switch (what) {
            case 0:
                return news.dayOf(secret, agent);
            case 1:
                return news.tellerOf(secret, agent);
            case 2:
                return news.chainLength(secret, agent);
            default:
                throw new NoSuchElementException("no such what");
        }
    }

    public int chain(int secret, int agent, int i) throws NoSuchElementException {
        needSecret(secret);
        needAgent(agent);
        int length = news.chainLength(secret, agent);
        if (i < 0 || i >= length) {
            throw new NoSuchElementException("no such one in the chain");
        }
        return news.stepsBack(secret, agent, length - 1 - i);
    }

    public int known(int side, int day) throws NoSuchElementException {
        if (side != 0 && side != 1) {
            throw new NoSuchElementException("no such side");
        }
        int bits = 0;
        for (int agent = 0; agent < told.agents; agent++) {
            if (state.setting.his[agent] == side) {
                bits |= news.heardBits(agent, day);
            }
        }
        return told.worthOf(bits);
    }

    public int turn(int agent) throws NoSuchElementException {
        needAgent(agent);
        int before = state.setting.his[agent];
        act(TURN, agent);
        return before;
    }

    public int move(int agent) throws NoSuchElementException {
        needAgent(agent);
        if (told.kind[agent] == UNMOVED) {
            state.refuse(REFUSED_ACT);
            return NONE;
        }
        int before = state.setting.side[agent];
        act(MOVE, agent);
        return before;
    }

    public boolean burn(int agent, boolean burnt) throws NoSuchElementException {
        needAgent(agent);
        if (state.setting.isBurnt(agent) == burnt) {
            state.refuse(REFUSED_ACT);
            return false;
        }
        act(BURN, agent);
        return true;
    }

    public boolean cut(int line, boolean cut) throws NoSuchElementException {
        needLine(line);
        if (state.setting.isCut(line) == cut) {
            state.refuse(REFUSED_ACT);
            return false;
        }
        act(CUT, line);
        return true;
    }

    public int plant(int secret, int agent, int day) throws NoSuchElementException {
        needSecret(secret);
        needAgent(agent);
        if (state.setting.plants >= MOST_PLANTS || day < 0 || day > LAST_PLANT_DAY) {
            state.refuse(REFUSED_ACT);
            return NONE;
        }
        state.setting.addPlant(secret, agent, day);
        state.acts.push(PLANT, agent);
        news.spreadAll();
        return state.setting.plants;
    }

    public int undo() {
        if (!state.undoLast()) {
            return NONE;
        }
        news.spreadAll();
        return state.acts.size;
    }

    public int silence(int secret, int agent) throws NoSuchElementException {
        needSecret(secret);
        needAgent(agent);
        return whatIf.silencers(secret, agent);
    }

    public int matters(int line) throws NoSuchElementException {
        needLine(line);
        return whatIf.lessWithoutLine(line);
    }

    public int dearest() {
        int best = NONE;
        int most = 0;
        for (int line = 0; line < told.lines; line++) {
            int less = whatIf.lessWithoutLine(line);
            if (best == NONE || less > most) {
                best = line;
                most = less;
            }
        }
        return best;
    }

    public int heard(int agent, int day) throws NoSuchElementException {
        needAgent(agent);
        return news.heardBits(agent, day);
    }

    public int more(int from, int to) throws NoSuchElementException, IllegalArgumentException {
        needAgent(from);
        needAgent(to);
        if (from == to) {
            throw new IllegalArgumentException("no line goes from one to himself");
        }
        return whatIf.moreWithLine(from, to);
    }

    public int word(int agent) throws NoSuchElementException {
        needAgent(agent);
        return whatIf.fewerWithout(agent);
    }

    public int exchange(int what) throws NoSuchElementException {
        if (what != 0 && what != 1) {
            throw new NoSuchElementException("no such what");
        }
        int best = 0;
        int most = seatedWell(0);
        for (int families = 1; families < FAMILY_SETS; families++) {
            int seated = seatedWell(families);
            if (seated > most) {
                most = seated;
                best = families;
            }
        }
        return what == 0 ? most : best;
    }

    public int waves(int day) {
        int waving = 0;
        for (int one = 0; one < told.agents; one++) {
            for (int other = one + 1; other < told.agents; other++) {
                if (waveAcross(one, other, day)) {
                    waving++;
                }
            }
        }
        return waving;
    }

    public int farthest() {
        int last = NONE;
        for (int secret = 0; secret < told.secrets; secret++) {
            for (int agent = 0; agent < told.agents; agent++) {
                last = Math.max(last, news.dayOf(secret, agent));
            }
        }
        return last;
    }

    public int see(int secret, int agent, int day, boolean knew) throws NoSuchElementException {
        needSecret(secret);
        needAgent(agent);
        if (state.seen.size >= MOST_SEEN || day < 0 || day > LAST_SEEN_DAY) {
            state.refuse(REFUSED_SEEN);
            return NONE;
        }
        state.seen.push(secret, agent, day, knew);
        return state.seen.size;
    }

    public int who(int secret, int what) throws NoSuchElementException {
        needSecret(secret);
        if (what < 0 || what > 2) {
            throw new NoSuchElementException("no such what");
        }
        if (what == 2) {
            return state.seen.agreesWith(news) ? 1 : 0;
        }
        whatIf.startPlanting();
        return what == 0 ? whatIf.countPlanters(secret, state.seen) : whatIf.firstPlanter(secret, state.seen);
    }

    public void forget() {
        state.seen.size = 0;
    }

    public int game(int what) throws NoSuchElementException {
        if (what != 0 && what != 1) {
            throw new NoSuchElementException("no such what");
        }
        whatIf.playAll();
        return what == 0 ? whatIf.countResting() : whatIf.firstResting();
    }

    public int years(int seed, int n, int what) throws NoSuchElementException, IllegalArgumentException {
        if (what < 0 || what > 2) {
            throw new NoSuchElementException("no such what");
        }
        if (n < 0 || n > MOST_YEARS) {
            throw new IllegalArgumentException("not so many years");
        }
        return whatIf.liveYears(seed, n, what);
    }

    public void image() {
        kept.copyFrom(state);
        imaged = true;
    }

    public boolean restore() {
        if (!imaged) {
            return false;
        }
        state.copyFrom(kept);
        news.spreadAll();
        return true;
    }

    private void putBytes(int number) {
        for (int shift = 24; shift >= 0 && tapeLength < MOST_BYTES; shift -= 8) {
            tape[tapeLength] = (byte) (number >> shift);
            tapeLength++;
        }
    }

    private void needAgent(int agent) {
        if (agent < 0 || agent >= told.agents) {
            throw new NoSuchElementException("no such agent");
        }
    }

    private void needLine(int line) {
        if (line < 0 || line >= told.lines) {
            throw new NoSuchElementException("no such line");
        }
    }

    private void needSecret(int secret) {
        if (secret < 0 || secret >= told.secrets) {
            throw new NoSuchElementException("no such secret");
        }
    }

    private void act(int kind, int whom) {
        state.setting.flip(kind, whom);
        state.acts.push(kind, whom);
        news.spreadAll();
    }

    /** How many sit where they belong, less the GRUDGES at one place, once these FAMILIES have moved. */
    private int seatedWell(int families) {
        int well = 0;
        for (int agent = 0; agent < told.agents; agent++) {
            if (told.kind[agent] == UNMOVED || sideAfter(agent, families) == state.setting.his[agent]) {
                well++;
            }
        }
        for (int i = 0; i < told.grudges; i++) {
            int one = told.grudgeOne[i];
            int other = told.grudgeOther[i];
            if (told.eitherUnmoved(one, other) || sideAfter(one, families) == sideAfter(other, families)) {
                well--;
            }
        }
        return well;
    }

    private int sideAfter(int agent, int families) {
        return state.setting.side[agent] ^ (families >> told.family[agent] & 1);
    }

    private boolean waveAcross(int one, int other, int day) {
        return !told.eitherUnmoved(one, other)
            && state.setting.side[one] != state.setting.side[other]
            && Integer.bitCount(news.heardBits(one, day)) == Integer.bitCount(news.heardBits(other, day));
    }

    private static void copyRow(int[] from, int[] to) {
        System.arraycopy(from, 0, to, 0, Math.min(from.length, to.length));
    }

    /** What a TEXT tells; no ACT changes it. */
    private static final class Offices {
        int agents = 0;
        final int[] kind = new int[MOST_AGENTS];
        final int[] side = new int[MOST_AGENTS];
        final int[] his = new int[MOST_AGENTS];
        final int[] family = new int[MOST_AGENTS];
        int lines = 0;
        final int[] lineFrom = new int[MOST_LINES];
        final int[] lineTo = new int[MOST_LINES];
        final int[] lineDays = new int[MOST_LINES];
        int secrets = 0;
        final int[] worth = new int[MOST_SECRETS];
        final int[] whose = new int[MOST_SECRETS];
        final int[] source = new int[MOST_SECRETS];
        int grudges = 0;
        final int[] grudgeOne = new int[MOST_GRUDGES];
        final int[] grudgeOther = new int[MOST_GRUDGES];
        final Rule rule = new Rule();

        void clear() {
            agents = 0;
            lines = 0;
            secrets = 0;
            grudges = 0;
            rule.clear();
        }

        void copyFrom(Offices other) {
            agents = other.agents;
            copyRow(other.kind, kind);
            copyRow(other.side, side);
            copyRow(other.his, his);
            copyRow(other.family, family);
            lines = other.lines;
            copyRow(other.lineFrom, lineFrom);
            copyRow(other.lineTo, lineTo);
            copyRow(other.lineDays, lineDays);
            secrets = other.secrets;
            copyRow(other.worth, worth);
            copyRow(other.whose, whose);
            copyRow(other.source, source);
            grudges = other.grudges;
            copyRow(other.grudgeOne, grudgeOne);
            copyRow(other.grudgeOther, grudgeOther);
            rule.copyFrom(other.rule);
        }

        boolean eitherUnmoved(int one, int other) {
            return kind[one] == UNMOVED || kind[other] == UNMOVED;
        }

        int delay(int from, int to, int daysOfLine) {
            int days = daysOfLine;
            if (kind[to] == CHIEF) {
                days--;
            }
            if (kind[from] == CODIST) {
                days++;
            }
            return days < 1 ? 1 : days;
        }

        boolean hasLine(int from, int to) {
            for (int i = 0; i < lines; i++) {
                if (lineFrom[i] == from && lineTo[i] == to) {
                    return true;
                }
            }
            return false;
        }

        boolean hasGrudge(int one, int other) {
            for (int i = 0; i < grudges; i++) {
                if (grudgeOne[i] == one && grudgeOther[i] == other
                    || grudgeOne[i] == other && grudgeOther[i] == one) {
                    return true;
                }
            }
            return false;
        }

        int worthOf(int secretBits) {
            int sum = 0;
            for (int secret = 0; secret < secrets; secret++) {
                if ((secretBits >> secret & 1) == 1) {
                    sum += worth[secret];
                }
            }
            return sum;
        }
    }

    /** The rule as steps over a stack, so that asking it makes no objects. */
    private static final class Rule {
        // A step of 0 or more is a number; VALUES are -1 to -8, in the document's order.
        static final int VALUES = 8;
        static final int WORTH = 0;
        static final int FROM = 1;
        static final int TO = 2;
        static final int SAME = 3;
        static final int LOYAL = 4;
        static final int KIN = 5;
        static final int DAY = 6;
        static final int OWN = 7;
        static final int NOT = -9;
        static final int OR = -10;
        static final int AND = -11;
        static final int LESS = -12;
        static final int LIKE = -13;
        static final int PLUS = -14;
        static final int MINUS = -15;
        static final int TIMES = -16;
        static final int BY = -17;
        // Each of 6 EXPR within one another keeps at most 5 left sides open.
        private static final int MOST_OPEN = 40;

        private int size = 0;
        private final int[] steps = new int[MOST_BYTES];
        private final int[] stack = new int[MOST_OPEN];

        void clear() {
            size = 0;
        }

        boolean isThere() {
            return size > 0;
        }

        void addStep(int step) {
            if (size < steps.length) {
                steps[size] = step;
                size++;
            }
        }

        void copyFrom(Rule other) {
            size = other.size;
            System.arraycopy(other.steps, 0, steps, 0, other.size);
        }

        /** The calls are deepest here: it calls nothing. */
        int give(int[] values) {
            int top = 0;
            for (int i = 0; i < size; i++) {
                int step = steps[i];
                if (step >= -VALUES) {
                    if (top < MOST_OPEN) {
                        stack[top] = step >= 0 ? step : values[-1 - step];
                        top++;
                    }
                } else if (step == NOT) {
                    if (top >= 1) {
                        stack[top - 1] = stack[top - 1] == 0 ? 1 : 0;
                    }
                } else if (top >= 2) {
                    int right = stack[top - 1];
                    int left = stack[top - 2];
                    top--;
                    switch (step) {
                        case OR:
                            stack[top - 1] = left != 0 || right != 0 ? 1 : 0;
                            break;
                        case AND:
                            stack[top - 1] = left != 0 && right != 0 ? 1 : 0;
                            break;
                        case LESS:
                            stack[top - 1] = left < right ? 1 : 0;
                            break;
                        case LIKE:
                            stack[top - 1] = left == right ? 1 : 0;
                            break;
                        case PLUS:
                            stack[top - 1] = left + right;
                            break;
                        case MINUS:
                            stack[top - 1] = left - right;
                            break;
                        case TIMES:
                            stack[top - 1] = left * right;
                            break;
                        default:
                            stack[top - 1] = right == 0 ? 0 : left / right;
                            break;
                    }
                }
            }
            return top >= 1 ? stack[0] : 0;
        }
    }

    /** Reads a TEXT into a draft; what it refuses it tells by a FAULT and its place. */
    private static final class Reader {
        private static final int END = 0;
        private static final int WORD = 1;
        private static final int NUMBER = 2;
        private static final int SIGN = 3;
        private static final int NO_TOKEN = 4;

        private static final int WRONG = 1;
        private static final int TOO_MUCH = 2;
        private static final int UNKNOWN = 3;
        private static final int AGAIN = 4;
        private static final int SECOND_RULE = 5;

        final Offices draft = new Offices();
        int place = NONE;
        private int fault = 0;
        private final byte[] text;
        private int length = 0;
        private int token = END;
        private int start = 0;
        private int end = 0;
        private int number = 0;

        Reader(byte[] tape) {
            text = tape;
        }

        /** 0, or the FAULT. */
        int read(int n) {
            length = Math.max(0, Math.min(n, text.length));
            fault = 0;
            place = NONE;
            end = 0;
            draft.clear();
            advance();
            for (int i = 0; i < MOST_BYTES && token != END; i++) {
                if (!readStatement()) {
                    return fault;
                }
            }
            return 0;
        }

        private boolean readStatement() {
            for (int kind = 0; kind < KINDS; kind++) {
                if (isWord(kindName(kind))) {
                    return readAgent(kind) && readSign(';');
                }
            }
            if (isWord("line")) {
                return readLine() && readSign(';');
            }
            if (isWord("secret")) {
                return readSecret() && readSign(';');
            }
            if (isWord("grudge")) {
                return readGrudge() && readSign(';');
            }
            if (!isWord("tells")) {
                return refuse(WRONG);
            }
            if (draft.rule.isThere()) {
                return refuse(SECOND_RULE);
            }
            advance();
            return readExpression(0) && readSign(';');
        }

        private boolean readAgent(int kind) {
            int i = draft.agents;
            if (i >= MOST_AGENTS) {
                return refuse(TOO_MUCH);
            }
            advance();
            draft.kind[i] = kind;
            if (!numberWithin(0, 1)) {
                return false;
            }
            draft.side[i] = takeNumber();
            if (!numberWithin(0, 1)) {
                return false;
            }
            draft.his[i] = takeNumber();
            if (!numberWithin(0, 3)) {
                return false;
            }
            draft.family[i] = takeNumber();
            draft.agents++;
            return true;
        }

        private boolean readLine() {
            int i = draft.lines;
            if (i >= MOST_LINES) {
                return refuse(TOO_MUCH);
            }
            advance();
            if (!numberOfAgent()) {
                return false;
            }
            int from = takeNumber();
            if (!numberOfAgent()) {
                return false;
            }
            if (number == from || draft.hasLine(from, number)) {
                return refuse(AGAIN);
            }
            draft.lineFrom[i] = from;
            draft.lineTo[i] = takeNumber();
            if (!numberWithin(1, 9)) {
                return false;
            }
            draft.lineDays[i] = takeNumber();
            draft.lines++;
            return true;
        }

        private boolean readSecret() {
            int i = draft.secrets;
            if (i >= MOST_SECRETS) {
                return refuse(TOO_MUCH);
            }
            advance();
            if (!numberWithin(0, 9)) {
                return false;
            }
            draft.worth[i] = takeNumber();
            if (!numberWithin(0, 1)) {
                return false;
            }
            draft.whose[i] = takeNumber();
            if (!numberOfAgent()) {
                return false;
            }
            draft.source[i] = takeNumber();
            draft.secrets++;
            return true;
        }

        private boolean readGrudge() {
            int i = draft.grudges;
            if (i >= MOST_GRUDGES) {
                return refuse(TOO_MUCH);
            }
            advance();
            if (!numberOfAgent()) {
                return false;
            }
            int one = takeNumber();
            if (!numberOfAgent()) {
                return false;
            }
            if (number == one || draft.hasGrudge(one, number)) {
                return refuse(AGAIN);
            }
            draft.grudgeOne[i] = one;
            draft.grudgeOther[i] = takeNumber();
            draft.grudges++;
            return true;
        }

        /** depth: how many EXPR it stands within. */
        private boolean readExpression(int depth) {
            if (depth >= MOST_DEPTH) {
                return refuse(token == NUMBER || token == WORD || isSign('(') ? TOO_MUCH : WRONG);
            }
            if (!readAnd(depth)) {
                return false;
            }
            for (int i = 0; i < MOST_BYTES && isWord("or"); i++) {
                advance();
                if (!readAnd(depth)) {
                    return false;
                }
                draft.rule.addStep(Rule.OR);
            }
            return true;
        }

        private boolean readAnd(int depth) {
            if (!readNot(depth)) {
                return false;
            }
            for (int i = 0; i < MOST_BYTES && isWord("and"); i++) {
                advance();
                if (!readNot(depth)) {
                    return false;
                }
                draft.rule.addStep(Rule.AND);
            }
            return true;
        }

        private boolean readNot(int depth) {
            int nots = 0;
            while (nots < MOST_NOTS && isWord("not")) {
                advance();
                nots++;
            }
            if (nots == MOST_NOTS && isWord("not")) {
                return refuse(TOO_MUCH);
            }
            if (!readTest(depth)) {
                return false;
            }
            for (int i = 0; i < nots; i++) {
                draft.rule.addStep(Rule.NOT);
            }
            return true;
        }

        private boolean readTest(int depth) {
            if (!readSum(depth)) {
                return false;
            }
            boolean less = isSign('<');
            if (!less && !isSign('=')) {
                return true;
            }
            advance();
            if (!readSum(depth)) {
                return false;
            }
            draft.rule.addStep(less ? Rule.LESS : Rule.LIKE);
            return true;
        }

        private boolean readSum(int depth) {
            if (!readProduct(depth)) {
                return false;
            }
            for (int i = 0; i < MOST_BYTES && (isSign('+') || isSign('-')); i++) {
                int step = isSign('+') ? Rule.PLUS : Rule.MINUS;
                advance();
                if (!readProduct(depth)) {
                    return false;
                }
                draft.rule.addStep(step);
            }
            return true;
        }

        private boolean readProduct(int depth) {
            if (!readPart(depth)) {
                return false;
            }
            for (int i = 0; i < MOST_BYTES && (isSign('*') || isSign('/')); i++) {
                int step = isSign('*') ? Rule.TIMES : Rule.BY;
                advance();
                if (!readPart(depth)) {
                    return false;
                }
                draft.rule.addStep(step);
            }
            return true;
        }

        private boolean readPart(int depth) {
            if (token == NUMBER) {
                if (isTooLong()) {
                    return refuse(TOO_MUCH);
                }
                draft.rule.addStep(takeNumber());
                return true;
            }
            if (token == WORD) {
                return readValue();
            }
            if (!isSign('(')) {
                return refuse(WRONG);
            }
            advance();
            return readExpression(depth + 1) && readSign(')');
        }

        private boolean readValue() {
            for (int value = 0; value < Rule.VALUES; value++) {
                if (isWord(valueName(value))) {
                    draft.rule.addStep(-1 - value);
                    advance();
                    return true;
                }
            }
            return refuse(UNKNOWN);
        }

        private static String kindName(int kind) {
            switch (kind) {
                case 0:
                    return "clerk";
                case CHIEF:
                    return "chief";
                case CODIST:
                    return "codist";
                case DOUBLE:
                    return "double";
                default:
                    return "unmoved";
            }
        }

        private static String valueName(int value) {
            switch (value) {
                case Rule.WORTH:
                    return "worth";
                case Rule.FROM:
                    return "from";
                case Rule.TO:
                    return "to";
                case Rule.SAME:
                    return "same";
                case Rule.LOYAL:
                    return "loyal";
                case Rule.KIN:
                    return "kin";
                case Rule.DAY:
                    return "day";
                default:
                    return "own";
            }
        }

        private boolean numberWithin(int least, int most) {
            if (token != NUMBER) {
                return refuse(WRONG);
            }
            if (isTooLong() || number < least || number > most) {
                return refuse(TOO_MUCH);
            }
            return true;
        }

        private boolean numberOfAgent() {
            if (token != NUMBER) {
                return refuse(WRONG);
            }
            if (isTooLong()) {
                return refuse(TOO_MUCH);
            }
            return number < draft.agents || refuse(UNKNOWN);
        }

        private int takeNumber() {
            int taken = number;
            advance();
            return taken;
        }

        private boolean readSign(char sign) {
            if (!isSign(sign)) {
                return refuse(WRONG);
            }
            advance();
            return true;
        }

        private boolean refuse(int why) {
            fault = why;
            place = start;
            return false;
        }

        private boolean isTooLong() {
            return end - start > MOST_DIGITS;
        }

        private boolean isSign(char sign) {
            return token == SIGN && start < length && text[start] == sign;
        }

        private boolean isWord(String word) {
            if (token != WORD || end - start != word.length()) {
                return false;
            }
            for (int i = 0; i < word.length() && start + i < length; i++) {
                if (text[start + i] != word.charAt(i)) {
                    return false;
                }
            }
            return true;
        }

        /** The next TOKEN, from start to before end. */
        private void advance() {
            start = end;
            while (start < length && (text[start] == ' ' || text[start] == '\n')) {
                start++;
            }
            end = start;
            if (start >= length) {
                token = END;
            } else if (isLetter(text[start])) {
                token = WORD;
                while (end < length && isLetter(text[end])) {
                    end++;
                }
            } else if (isDigit(text[start])) {
                token = NUMBER;
                advanceNumber();
            } else {
                token = ";()+-*/<=".indexOf((char) (text[start] & 255)) >= 0 ? SIGN : NO_TOKEN;
                end++;
            }
        }

        private void advanceNumber() {
            number = 0;
            while (end < length && isDigit(text[end])) {
                // Beyond four digits it is refused: its number doesn't count.
                if (end - start < MOST_DIGITS) {
                    number = number * 10 + text[end] - '0';
                }
                end++;
            }
        }

        private static boolean isLetter(int sign) {
            return sign >= 'a' && sign <= 'z';
        }

        private static boolean isDigit(int sign) {
            return sign >= '0' && sign <= '9';
        }
    }

    /** What ACTS change of the offices; what would be if is a changed copy. */
    private static final class Setting {
        final int[] side = new int[MOST_AGENTS];
        final int[] his = new int[MOST_AGENTS];
        int burnt = 0;
        int cuts = 0;
        int plants = 0;
        // One place more than can be PLANTED, for him who else can have told it.
        final int[] plantSecret = new int[MOST_PLANTS + 1];
        final int[] plantAgent = new int[MOST_PLANTS + 1];
        final int[] plantDay = new int[MOST_PLANTS + 1];
        int moreFrom = NONE;
        int moreTo = NONE;

        void startWith(Offices told) {
            copyRow(told.side, side);
            copyRow(told.his, his);
            burnt = 0;
            cuts = 0;
            plants = 0;
        }

        void copyFrom(Setting other) {
            copyRow(other.side, side);
            copyRow(other.his, his);
            burnt = other.burnt;
            cuts = other.cuts;
            plants = other.plants;
            copyRow(other.plantSecret, plantSecret);
            copyRow(other.plantAgent, plantAgent);
            copyRow(other.plantDay, plantDay);
            moreFrom = other.moreFrom;
            moreTo = other.moreTo;
        }

        boolean isBurnt(int agent) {
            return (burnt >> agent & 1) == 1;
        }

        boolean isCut(int line) {
            return (cuts >> line & 1) == 1;
        }

        void addPlant(int secret, int agent, int day) {
            if (plants < plantSecret.length) {
                plantSecret[plants] = secret;
                plantAgent[plants] = agent;
                plantDay[plants] = day;
                plants++;
            }
        }

        void dropPlant() {
            if (plants > 0) {
                plants--;
            }
        }

        /** Done twice, each of these is undone. */
        void flip(int kind, int whom) {
            switch (kind) {
                case TURN:
                    his[whom] ^= 1;
                    break;
                case MOVE:
                    side[whom] ^= 1;
                    break;
                case BURN:
                    burnt ^= 1 << whom;
                    break;
                case CUT:
                    cuts ^= 1 << whom;
                    break;
                default:
                    break;
            }
        }
    }

    /** The latest ACTS. */
    private static final class Acts {
        int size = 0;
        final int[] kind = new int[MOST_ACTS];
        final int[] whom = new int[MOST_ACTS];

        void push(int actKind, int actWhom) {
            if (size >= MOST_ACTS) {
                System.arraycopy(kind, 1, kind, 0, MOST_ACTS - 1);
                System.arraycopy(whom, 1, whom, 0, MOST_ACTS - 1);
                size = MOST_ACTS - 1;
            }
            kind[size] = actKind;
            whom[size] = actWhom;
            size++;
        }

        void copyFrom(Acts other) {
            size = other.size;
            copyRow(other.kind, kind);
            copyRow(other.whom, whom);
        }
    }

    /** What is SEEN. */
    private static final class Seen {
        int size = 0;
        private final int[] secret = new int[MOST_SEEN];
        private final int[] agent = new int[MOST_SEEN];
        private final int[] day = new int[MOST_SEEN];
        private final int[] knew = new int[MOST_SEEN];

        void push(int seenSecret, int seenAgent, int seenDay, boolean seenKnew) {
            if (size < MOST_SEEN) {
                secret[size] = seenSecret;
                agent[size] = seenAgent;
                day[size] = seenDay;
                knew[size] = seenKnew ? 1 : 0;
                size++;
            }
        }

        void copyFrom(Seen other) {
            size = other.size;
            copyRow(other.secret, secret);
            copyRow(other.agent, agent);
            copyRow(other.day, day);
            copyRow(other.knew, knew);
        }

        boolean agreesWith(News news) {
            for (int i = 0; i < size; i++) {
                if (news.knowsBy(secret[i], agent[i], day[i]) != (knew[i] == 1)) {
                    return false;
                }
            }
            return true;
        }
    }

    /** What an IMAGE keeps. */
    private static final class State {
        final Setting setting = new Setting();
        final Acts acts = new Acts();
        final Seen seen = new Seen();
        final int[] status = new int[3];

        /** STATUS counts the calls of the object, so it goes on. */
        void startWith(Offices told) {
            setting.startWith(told);
            acts.size = 0;
            seen.size = 0;
        }

        void copyFrom(State other) {
            setting.copyFrom(other.setting);
            acts.copyFrom(other.acts);
            seen.copyFrom(other.seen);
            copyRow(other.status, status);
        }

        void refuse(int what) {
            status[what]++;
        }

        boolean undoLast() {
            if (acts.size <= 0) {
                return false;
            }
            acts.size--;
            if (acts.kind[acts.size] == PLANT) {
                setting.dropPlant();
            } else {
                setting.flip(acts.kind[acts.size], acts.whom[acts.size]);
            }
            return true;
        }
    }

    /** Who knows what when and from whom, in one Setting. */
    private static final class News {
        private final Offices told;
        private final Setting setting;
        private final int[] days = new int[MOST_SECRETS * MOST_AGENTS];
        private final int[] tellers = new int[MOST_SECRETS * MOST_AGENTS];
        private final int[] values = new int[Rule.VALUES];

        News(Offices offices, Setting where) {
            told = offices;
            setting = where;
        }

        void spreadAll() {
            for (int secret = 0; secret < told.secrets; secret++) {
                spread(secret);
            }
        }

        /** Each telling takes a DAY at least, so who knows it first of all that are left can't hear it sooner. */
        void spread(int secret) {
            startSpread(secret);
            int left = (1 << told.agents) - 1;
            for (int i = 0; i < told.agents; i++) {
                int first = firstOf(secret, left);
                if (first == NONE) {
                    return;
                }
                left ^= 1 << first;
                if (!setting.isBurnt(first)) {
                    tellAll(secret, first);
                }
            }
        }

        private void startSpread(int secret) {
            for (int agent = 0; agent < told.agents; agent++) {
                days[at(secret, agent)] = NONE;
                tellers[at(secret, agent)] = NONE;
            }
            days[at(secret, told.source[secret])] = 0;
            for (int i = 0; i < setting.plants; i++) {
                if (setting.plantSecret[i] == secret) {
                    int place = at(secret, setting.plantAgent[i]);
                    if (days[place] == NONE || setting.plantDay[i] < days[place]) {
                        days[place] = setting.plantDay[i];
                    }
                }
            }
        }

        private int firstOf(int secret, int left) {
            int first = NONE;
            int firstDay = NONE;
            for (int agent = 0; agent < told.agents; agent++) {
                int day = days[at(secret, agent)];
                if ((left >> agent & 1) == 1 && day != NONE && (first == NONE || day < firstDay)) {
                    first = agent;
                    firstDay = day;
                }
            }
            return first;
        }

        private void tellAll(int secret, int from) {
            for (int i = 0; i < told.lines; i++) {
                if (told.lineFrom[i] == from && !setting.isCut(i)) {
                    tellOne(secret, from, told.lineTo[i], told.lineDays[i]);
                }
            }
            if (setting.moreFrom == from && setting.moreTo != NONE) {
                tellOne(secret, from, setting.moreTo, 1);
            }
        }

        private void tellOne(int secret, int from, int to, int lineDays) {
            if (setting.isBurnt(to)) {
                return;
            }
            int place = at(secret, to);
            int day = days[at(secret, from)] + told.delay(from, to, lineDays);
            boolean sooner = days[place] == NONE || day < days[place];
            boolean fromLesser = day == days[place] && from < tellers[place];
            if ((sooner || fromLesser) && wouldTell(secret, from, to)) {
                days[place] = day;
                tellers[place] = from;
            }
        }

        /** Whether one who knows it and isn't BURNT tells another one. */
        private boolean wouldTell(int secret, int from, int to) {
            if (told.kind[from] == DOUBLE) {
                return true;
            }
            boolean unmoved = told.eitherUnmoved(from, to);
            boolean same = unmoved || setting.side[from] == setting.side[to];
            if (!told.rule.isThere()) {
                return same;
            }
            values[Rule.WORTH] = told.worth[secret];
            values[Rule.FROM] = told.kind[from];
            values[Rule.TO] = told.kind[to];
            values[Rule.SAME] = same ? 1 : 0;
            values[Rule.LOYAL] = unmoved || setting.side[to] == setting.his[from] ? 1 : 0;
            values[Rule.KIN] = told.family[from] == told.family[to] ? 1 : 0;
            values[Rule.DAY] = days[at(secret, from)];
            values[Rule.OWN] = told.whose[secret] == setting.his[from] ? 1 : 0;
            return told.rule.give(values) > 0;
        }

        private static int at(int secret, int agent) {
            return secret * MOST_AGENTS + agent;
        }

        int dayOf(int secret, int agent) {
            return days[at(secret, agent)];
        }

        /** NONE: by himself, or never. */
        int tellerOf(int secret, int agent) {
            return tellers[at(secret, agent)];
        }

        boolean knowsBy(int secret, int agent, int day) {
            int first = dayOf(secret, agent);
            return first != NONE && first <= day;
        }

        int heardBits(int agent, int day) {
            int bits = 0;
            for (int secret = 0; secret < told.secrets; secret++) {
                if (knowsBy(secret, agent, day)) {
                    bits |= 1 << secret;
                }
            }
            return bits;
        }

        int toldBits(int line) {
            int from = told.lineFrom[line];
            int to = told.lineTo[line];
            if (setting.isCut(line) || setting.isBurnt(from) || setting.isBurnt(to)) {
                return 0;
            }
            int bits = 0;
            for (int secret = 0; secret < told.secrets; secret++) {
                if (dayOf(secret, from) != NONE && wouldTell(secret, from, to)) {
                    bits |= 1 << secret;
                }
            }
            return bits;
        }

        int knowers(int secret) {
            int sum = 0;
            for (int agent = 0; agent < told.agents; agent++) {
                if (dayOf(secret, agent) != NONE) {
                    sum++;
                }
            }
            return sum;
        }

        int couples() {
            int sum = 0;
            for (int secret = 0; secret < told.secrets; secret++) {
                sum += knowers(secret);
            }
            return sum;
        }

        int chainLength(int secret, int agent) {
            if (dayOf(secret, agent) == NONE) {
                return 0;
            }
            int length = 1;
            int one = tellerOf(secret, agent);
            while (one != NONE && length < MOST_AGENTS) {
                one = tellerOf(secret, one);
                length++;
            }
            return length;
        }

        int stepsBack(int secret, int agent, int steps) {
            int one = agent;
            for (int i = 0; i < steps; i++) {
                int teller = tellerOf(secret, one);
                if (teller == NONE) {
                    return one;
                }
                one = teller;
            }
            return one;
        }

        int leakedTo(int secret) {
            int first = NONE;
            for (int agent = 0; agent < told.agents; agent++) {
                int day = dayOf(secret, agent);
                if (day != NONE && setting.his[agent] != told.whose[secret]
                    && (first == NONE || day < dayOf(secret, first))) {
                    first = agent;
                }
            }
            return first;
        }

        int leakDay(int secret) {
            int first = leakedTo(secret);
            return first == NONE ? NONE : dayOf(secret, first);
        }

        int leakedBits() {
            int bits = 0;
            for (int secret = 0; secret < told.secrets; secret++) {
                if (leakedTo(secret) != NONE) {
                    bits |= 1 << secret;
                }
            }
            return bits;
        }

        int leakedWorth() {
            return told.worthOf(leakedBits());
        }

        /** What the first SIDE gains; the other one gains just so much less. */
        int gainOfFirst() {
            int sum = 0;
            for (int secret = 0; secret < told.secrets; secret++) {
                if (leakedTo(secret) != NONE) {
                    sum += told.whose[secret] == 0 ? -told.worth[secret] : told.worth[secret];
                }
            }
            return sum;
        }
    }

    /** What would be if: all on a trial Setting, so that nothing has to be put back. */
    private static final class WhatIf {
        private final Offices told;
        private final Setting setting;
        private final News news;
        private final Setting trial = new Setting();
        private final News trialNews;
        private final int[] gains = new int[CHOICES * CHOICES];

        WhatIf(Offices offices, Setting where, News present) {
            told = offices;
            setting = where;
            news = present;
            trialNews = new News(offices, trial);
        }

        int silencers(int secret, int agent) {
            if (news.dayOf(secret, agent) == NONE) {
                return 0;
            }
            if (news.tellerOf(secret, agent) == NONE) {
                return NONE;
            }
            int free = burnable(secret, agent);
            int best = NONE;
            int fewest = MOST_AGENTS + 1;
            trial.copyFrom(setting);
            for (int set = 0; set <= free; set++) {
                int size = Integer.bitCount(set);
                if ((set & ~free) == 0 && size < fewest) {
                    trial.burnt = setting.burnt | set;
                    trialNews.spread(secret);
                    if (trialNews.dayOf(secret, agent) == NONE) {
                        best = set;
                        fewest = size;
                    }
                }
            }
            return best;
        }

        private int burnable(int secret, int agent) {
            int bits = 0;
            for (int one = 0; one < told.agents; one++) {
                boolean byHimself = news.dayOf(secret, one) != NONE && news.tellerOf(secret, one) == NONE;
                if (one != agent && !byHimself && !setting.isBurnt(one)) {
                    bits |= 1 << one;
                }
            }
            return bits;
        }

        int lessWithoutLine(int line) {
            if (setting.isCut(line)) {
                return 0;
            }
            trial.copyFrom(setting);
            trial.flip(CUT, line);
            trialNews.spreadAll();
            return news.leakedWorth() - trialNews.leakedWorth();
        }

        int moreWithLine(int from, int to) {
            trial.copyFrom(setting);
            trial.moreFrom = from;
            trial.moreTo = to;
            trialNews.spreadAll();
            return trialNews.couples() - news.couples();
        }

        int fewerWithout(int agent) {
            if (setting.isBurnt(agent)) {
                return 0;
            }
            trial.copyFrom(setting);
            trial.flip(BURN, agent);
            trialNews.spreadAll();
            return news.couples() - trialNews.couples();
        }

        /** The other SECRETS come about once; each trial then spreads the planted one alone. */
        void startPlanting() {
            trial.copyFrom(setting);
            trialNews.spreadAll();
        }

        int countPlanters(int secret, Seen seen) {
            int sum = 0;
            for (int agent = 0; agent < told.agents; agent++) {
                for (int day = 0; day <= LAST_WHO_DAY; day++) {
                    if (agreesPlanted(secret, agent, day, seen)) {
                        sum++;
                    }
                }
            }
            return sum;
        }

        int firstPlanter(int secret, Seen seen) {
            for (int agent = 0; agent < told.agents; agent++) {
                for (int day = 0; day <= LAST_WHO_DAY; day++) {
                    if (agreesPlanted(secret, agent, day, seen)) {
                        return agent * 100 + day;
                    }
                }
            }
            return NONE;
        }

        private boolean agreesPlanted(int secret, int agent, int day, Seen seen) {
            trial.addPlant(secret, agent, day);
            trialNews.spread(secret);
            trial.dropPlant();
            return seen.agreesWith(trialNews);
        }

        /** A choice is an AGENT and 1; nobody is 0. */
        void playAll() {
            trial.copyFrom(setting);
            for (int first = 0; first <= told.agents; first++) {
                for (int other = 0; other <= told.agents; other++) {
                    if (mayChoose(0, first) && mayChoose(1, other)) {
                        trial.burnt = setting.burnt | bitOf(first) | bitOf(other);
                        trialNews.spreadAll();
                        gains[first * CHOICES + other] = trialNews.gainOfFirst();
                    }
                }
            }
        }

        int countResting() {
            int sum = 0;
            for (int first = 0; first <= told.agents; first++) {
                for (int other = 0; other <= told.agents; other++) {
                    if (rests(first, other)) {
                        sum++;
                    }
                }
            }
            return sum;
        }

        int firstResting() {
            for (int first = 0; first <= told.agents; first++) {
                for (int other = 0; other <= told.agents; other++) {
                    if (rests(first, other)) {
                        return first * 10 + other;
                    }
                }
            }
            return NONE;
        }

        private boolean rests(int first, int other) {
            if (!mayChoose(0, first) || !mayChoose(1, other)) {
                return false;
            }
            int gain = gains[first * CHOICES + other];
            for (int choice = 0; choice <= told.agents; choice++) {
                if (mayChoose(0, choice) && gains[choice * CHOICES + other] > gain) {
                    return false;
                }
                if (mayChoose(1, choice) && gains[first * CHOICES + choice] < gain) {
                    return false;
                }
            }
            return true;
        }

        private boolean mayChoose(int side, int choice) {
            return choice == 0 || told.kind[choice - 1] == UNMOVED || setting.side[choice - 1] == side;
        }

        private static int bitOf(int choice) {
            return choice == 0 ? 0 : 1 << (choice - 1);
        }

        int liveYears(int seed, int n, int what) {
            trial.copyFrom(setting);
            int drawn = seed;
            int sum = 0;
            int least = 0;
            int quiet = 0;
            for (int year = 0; year < n; year++) {
                if (told.agents > 0) {
                    drawn = nextSeed(drawn);
                    int agent = (drawn >>> 16 & 32767) % told.agents;
                    drawn = nextSeed(drawn);
                    liveYear(agent, drawn >>> 16 & 3);
                }
                trialNews.spreadAll();
                int leaked = trialNews.leakedBits();
                int worth = told.worthOf(leaked);
                sum += worth;
                least = year == 0 ? worth : Math.min(least, worth);
                quiet += leaked == 0 ? 1 : 0;
            }
            return what == 0 ? sum : what == 1 ? least : quiet;
        }

        private void liveYear(int agent, int draw) {
            boolean stays = draw == MOVE && told.kind[agent] == UNMOVED;
            if (draw <= BURN && !stays) {
                trial.flip(draw, agent);
            }
        }

        private static int nextSeed(int seed) {
            return seed * 1103515245 + 12345;
        }
    }
}
