import java.util.ArrayList;
import java.util.List;
import java.util.Random;

/** Random texts: mostly right ones, some at the edge of what is too much, some with a wrong token. */
final class RandomText {
    private static final String[] KINDS = {"clerk", "chief", "codist", "double", "unmoved"};
    private static final String[] VALUES = {"worth", "from", "to", "same", "loyal", "kin", "day", "own"};
    private static final String[] ODD = {";", "(", ")", "+", "-", "*", "/", "<", "=", "not", "and", "or", "clerk",
        "line", "tells", "x", "zebra", "0", "1", "7", "9", "10", "99", "0001", "9999", "12345", "00000", ">", "\t",
        "A", "\u00e9", "\0", "worth", "to", "own", "secret", "grudge", "double"};

    private final Random random;
    private final List<String> tokens = new ArrayList<>();

    private RandomText(Random random) {
        this.random = random;
    }

    static String of(Random random) {
        RandomText text = new RandomText(random);
        text.statements();
        if (random.nextInt(4) == 0) {
            text.spoil();
        }
        return text.joined();
    }

    static String ofRule(Random random) {
        RandomText text = new RandomText(random);
        text.add("clerk", "0", "0", "0", ";", "tells");
        text.expression(0, 9);
        text.add(";");
        if (random.nextInt(3) == 0) {
            text.spoil();
        }
        return text.joined();
    }

    private void add(String... more) {
        tokens.addAll(List.of(more));
    }

    private String below(int n) {
        return Integer.toString(random.nextInt(n));
    }

    private void statements() {
        int agents = 1 + random.nextInt(random.nextInt(8) == 0 ? 9 : 8);
        for (int i = 0; i < agents; i++) {
            add(KINDS[random.nextInt(5)], below(2), below(2), below(4), ";");
        }
        int rest = random.nextInt(34);
        boolean rule = false;
        int lines = 0;
        int secrets = 0;
        int grudges = 0;
        for (int i = 0; i < rest; i++) {
            switch (random.nextInt(8)) {
                case 0:
                    if (secrets++ < 6 || random.nextInt(9) == 0) {
                        add("secret", below(10), below(2), below(agents), ";");
                    }
                    break;
                case 1:
                    if (grudges++ < 8) {
                        pair("grudge", agents);
                    }
                    break;
                case 2:
                    if (!rule || random.nextInt(40) == 0) {
                        rule = true;
                        add("tells");
                        expression(0, 4);
                        add(";");
                    }
                    break;
                default:
                    if (lines++ < 16 || random.nextInt(9) == 0) {
                        pair("line", agents);
                    }
                    break;
            }
        }
    }

    /** Rarely one that is there already. */
    private void pair(String word, int agents) {
        for (int i = 0; i < 50; i++) {
            String one = below(agents);
            String other = below(agents);
            boolean there = one.equals(other);
            for (int t = 0; t + 2 < tokens.size(); t++) {
                if (tokens.get(t).equals(word)) {
                    boolean same = tokens.get(t + 1).equals(one) && tokens.get(t + 2).equals(other);
                    boolean turned = tokens.get(t + 1).equals(other) && tokens.get(t + 2).equals(one);
                    there |= same || turned && word.equals("grudge");
                }
            }
            if (!there || random.nextInt(300) == 0) {
                add(word, one, other);
                if (word.equals("line")) {
                    add(Integer.toString(1 + random.nextInt(9)));
                }
                add(";");
                return;
            }
        }
    }

    private void expression(int depth, int most) {
        int sort = random.nextInt(depth >= most ? 2 : 14);
        if (sort < 2) {
            add(sort == 0 ? below(random.nextInt(3) == 0 ? 10000 : 12) : VALUES[random.nextInt(8)]);
        } else if (sort < 4) {
            add("(");
            expression(depth + 1, most);
            add(")");
        } else if (sort < 6) {
            int nots = 1 + random.nextInt(random.nextInt(6) == 0 ? 8 : 2);
            for (int i = 0; i < nots; i++) {
                add("not");
            }
            expression(depth + 1, most);
        } else {
            int signs = random.nextInt(3);
            String[] all = {"+", "-", "*", "/", "<", "=", "and", "or"};
            operand(depth, most);
            for (int i = 0; i <= signs; i++) {
                String sign = all[random.nextInt(8)];
                add(sign);
                operand(depth, most);
            }
        }
    }

    private void operand(int depth, int most) {
        if (random.nextInt(4) == 0) {
            add("(");
            expression(depth + 1, most);
            add(")");
        } else {
            add(random.nextInt(3) == 0 ? below(9) : VALUES[random.nextInt(8)]);
        }
    }

    private void spoil() {
        int at = random.nextInt(tokens.size());
        String odd = ODD[random.nextInt(ODD.length)];
        switch (random.nextInt(4)) {
            case 0:
                tokens.remove(at);
                break;
            case 1:
                tokens.add(at, odd);
                break;
            case 2:
                tokens.set(at, odd);
                break;
            default:
                tokens.subList(at, tokens.size()).clear();
                break;
        }
    }

    /** Blanks stand where two tokens would else be one, and anywhere else by chance. */
    private String joined() {
        StringBuilder s = new StringBuilder();
        for (String token : tokens) {
            boolean glued = s.length() > 0 && sort(s.charAt(s.length() - 1)) == sort(token.charAt(0))
                && sort(token.charAt(0)) != 0;
            if (glued || random.nextInt(9) == 0) {
                s.append(random.nextInt(5) == 0 ? '\n' : ' ');
            }
            s.append(token);
        }
        if (random.nextInt(6) == 0) {
            s.append("  ");
        }
        return s.length() > 700 ? s.substring(0, 700) : s.toString();
    }

    private static int sort(char c) {
        return c >= 'a' && c <= 'z' ? 1 : c >= '0' && c <= '9' ? 2 : 0;
    }
}
