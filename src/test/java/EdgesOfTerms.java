/** "Terms" but for the FAULTS: how much a TEXT may tell, its TOKENS, its grammar, and what a rule gives. */
final class EdgesOfTerms {
    static final String TWO = "clerk 0 0 0;clerk 0 0 0;";
    // an int that is the least of all, from NUMBERS of 4 digits
    private static final String LEAST = "(8192*4*256*256)";

    private EdgesOfTerms() {
    }

    static void run() {
        agents();
        lines();
        secrets();
        grudgesAndRule();
        tokens();
        notation();
        statements();
        grammar();
        arithmetic();
        values();
    }

    private static void says(String words, Runnable test) {
        Due.says("Terms", words, test);
    }

    static String clerks(int n) {
        return "clerk 0 0 0;".repeat(n);
    }

    /** n lines among eight agents. */
    static String lines(int n) {
        StringBuilder s = new StringBuilder();
        for (int i = 0; i < n; i++) {
            s.append("line ").append(i / 7).append(' ').append(i % 7 < i / 7 ? i % 7 : i % 7 + 1).append(" 1;");
        }
        return s.toString();
    }

    static String grudges(int n) {
        StringBuilder s = new StringBuilder();
        for (int i = 0; i < n; i++) {
            s.append("grudge ").append(i).append(' ').append((i + 1) % 8).append(';');
        }
        return s.toString();
    }

    /** Each from the least to the most is taken and answered by what; one less and one more is FAULT 2. */
    private static void range(String ahead, String behind, int least, int most, Twins.Use answer) {
        for (int n = least; n <= most; n++) {
            Due.is(ahead + n + behind, answer.of(Due.desks(ahead + n + behind)), n);
        }
        if (least > 0) {
            Due.fault(ahead + (least - 1) + behind, 2, ahead.length());
        }
        Due.fault(ahead + (most + 1) + behind, 2, ahead.length());
        Due.fault(ahead + 9999 + behind, 2, ahead.length());
    }

    private static void agents() {
        says("AGENTS 0, 1 .. (at most 8)", () -> {
            for (int n = 0; n <= 8; n++) {
                WavingDesks x = Due.desks(clerks(n));
                int many = n;
                Due.is("AGENTS", x.count(0), n);
                for (int a = 0; a < n; a++) {
                    Due.is("agent(" + a + ", 0)", x.agent(a, 0), 0);
                }
                Due.noSuch("agent(" + n + ", 0)", () -> x.agent(many, 0));
                Due.noSuch("agent(-1, 0)", () -> x.agent(-1, 0));
            }
            Due.fault(clerks(9), 2, 96);
        });
        says("a KIND (0 clerk, 1 chief, 2 codist, 3 double, 4 unmoved)", () -> {
            String[] names = {"clerk", "chief", "codist", "double", "unmoved"};
            for (int kind = 0; kind < 5; kind++) {
                Due.is(names[kind], Due.desks(names[kind] + " 0 0 0;").agent(0, 0), kind);
            }
            Due.fault("boss 0 0 0;", 1, 0);
        });
        says("a SIDE where he sits (0 or 1)", () -> range("clerk ", " 0 0;", 0, 1, x -> x.agent(0, 1)));
        says("whose he is (0 or 1: HIS)", () -> range("clerk 0 ", " 0;", 0, 1, x -> x.agent(0, 2)));
        says("a FAMILY (0 to 3)", () -> range("clerk 0 0 ", ";", 0, 3, x -> x.agent(0, 3)));
    }

    private static void lines() {
        says("LINES (at most 16)", () -> {
            for (int n = 0; n <= 16; n += n < 14 ? 7 : 1) {
                WavingDesks x = Due.desks(clerks(8) + lines(n));
                int many = n;
                Due.is("LINES", x.count(1), n);
                if (n > 0) {
                    Due.is("the last one's DAYS", x.line(n - 1, 2), 1);
                }
                Due.noSuch("line(" + n + ", 0)", () -> x.line(many, 0));
                Due.noSuch("line(-1, 0)", () -> x.line(-1, 0));
            }
            String sixteen = clerks(8) + lines(16);
            Due.fault(clerks(8) + lines(17), 2, sixteen.length());
        });
        says("from an AGENT to another one", () -> {
            WavingDesks x = Due.desks(clerks(8) + "line 7 0 1;line 0 7 1;");
            Due.is("from the last", x.line(0, 0), 7);
            Due.is("to the first", x.line(0, 1), 0);
            Due.is("from the first", x.line(1, 0), 0);
            Due.is("to the last", x.line(1, 1), 7);
            Due.fault(TWO + "line 0 0 1;", 4, 31);
        });
        says("DAYS (1 to 9)", () -> range(TWO + "line 0 1 ", ";", 1, 9, x -> x.line(0, 2)));
    }

    private static void secrets() {
        says("SECRETS 0, 1 .. (at most 6)", () -> {
            for (int n = 0; n <= 6; n++) {
                WavingDesks x = Due.desks(clerks(1) + "secret 4 0 0;".repeat(n));
                int many = n;
                Due.is("SECRETS", x.count(2), n);
                for (int s = 0; s < n; s++) {
                    Due.is("secret(" + s + ", 0)", x.secret(s, 0), 4);
                }
                Due.noSuch("secret(" + n + ", 0)", () -> x.secret(many, 0));
                Due.noSuch("secret(-1, 0)", () -> x.secret(-1, 0));
            }
            Due.fault(clerks(1) + "secret 4 0 0;".repeat(7), 2, 12 + 6 * 13);
        });
        says("WORTH (0 to 9)", () -> range(clerks(1) + "secret ", " 0 0;", 0, 9, x -> x.secret(0, 0)));
        says("whose it is (0 or 1)", () -> range(clerks(1) + "secret 1 ", " 0;", 0, 1, x -> x.secret(0, 1)));
        says("an AGENT who knows it on DAY 0 (its SOURCE)", () -> {
            for (int a = 0; a < 8; a++) {
                WavingDesks x = Due.desks(clerks(8) + "secret 1 0 " + a + ";");
                Due.is("SOURCE", x.secret(0, 2), a);
                Due.is("his DAY", x.knows(0, a, 0), 0);
                Due.is("he alone", x.secret(0, 5), 1);
            }
            Due.fault(clerks(8) + "secret 1 0 8;", 3, 107);
        });
    }

    private static void grudgesAndRule() {
        says("GRUDGES (at most 8): two AGENTS", () -> {
            for (int n = 0; n <= 8; n++) {
                Due.is("GRUDGES", Due.desks(clerks(8) + grudges(n)).count(3), n);
            }
            String eight = clerks(8) + grudges(8);
            Due.fault(eight + "grudge 0 2;", 2, eight.length());
            Due.fault(clerks(1) + "grudge 0;", 1, 20);
            Due.fault(clerks(1) + "grudge 0 0;", 4, 21);
        });
        says("RULE: a rule", () -> {
            String two = "clerk 0 0 0;clerk 1 0 0;line 0 1 1;secret 1 0 0;";
            Due.is("without one", Due.desks(two).knows(0, 1, 0), -1);
            Due.is("with one", Due.desks(two + "tells 1;").knows(0, 1, 0), 1);
            Due.fault(two + "tells 1;tells 1;", 5, two.length() + 8);
        });
        says("A TEXT of at most 700 bytes tells it", () -> {
            WavingDesks x = new WavingDesks();
            Due.is("700 bytes", Due.tell(x, " ".repeat(688) + "chief 0 0 0;"), 0);
            Due.is("the last ones count", x.agent(0, 0), 1);
            Due.fault(" ".repeat(699) + "x", 1, 699);
            WavingDesks y = new WavingDesks();
            Due.feed(y, " ".repeat(700));
            Due.is("no more come", y.feed(0, 0, 0, 0, 0), -1);
            Due.illegal("offices(701)", () -> y.offices(701));
            Due.is("nothing at all", new WavingDesks().offices(0), 0);
        });
    }

    private static void tokens() {
        says("TOKENS: words (a .. z, the longest row)", () -> {
            for (int sign = 0; sign < 256; sign++) {
                boolean letter = sign >= 'a' && sign <= 'z';
                boolean free = sign == ' ' || sign == '\n' || sign >= '0' && sign <= '9';
                // a letter more makes another word, which can't stand there; another sign stands behind the word
                if (!free) {
                    Due.fault("clerk" + (char) sign + "0 0 0;", 1, letter ? 0 : 5);
                }
                boolean blank = sign == ' ' || sign == '\n';
                Due.fault("" + (char) sign + "clerk 0 0 0;", blank ? 0 : 1, blank ? -1 : 0);
            }
            // one letter less, more or other makes another word
            String[] words = {"clerk", "chief", "codist", "double", "unmoved", "line", "secret", "grudge", "tells"};
            for (String word : words) {
                for (int i = 0; i < word.length(); i++) {
                    Due.fault(word.substring(0, i) + "q" + word.substring(i + 1) + " 0", 1, 0);
                    Due.fault(word.substring(0, i) + word.substring(i + 1) + " 0", 1, 0);
                    Due.fault(word.substring(0, i) + "q" + word.substring(i) + " 0", 1, 0);
                }
            }
            for (String value : new String[] {"worth", "from", "to", "same", "loyal", "kin", "day", "own", "not"}) {
                for (int i = 0; i < value.length(); i++) {
                    Due.fault("tells " + value.substring(0, i) + "q" + value.substring(i + 1) + ";", 3, 6);
                    Due.fault("tells " + value.substring(0, i) + "q" + value.substring(i) + ";", 3, 6);
                }
            }
            for (String sign : new String[] {"and", "or"}) {
                for (int i = 0; i < sign.length(); i++) {
                    Due.fault("tells 1 " + sign.substring(0, i) + "q" + sign.substring(i + 1) + " 1;", 1, 8);
                    Due.fault("tells 1 " + sign.substring(0, i) + "q" + sign.substring(i) + " 1;", 1, 8);
                }
            }
            Due.fault("tells kin day;", 1, 10);
            Due.fault("tells kinday;", 3, 6);
            Due.fault("tells1;", 0, -1);
        });
        says("NUMBERS (1 to 4 digits)", () -> {
            Due.fault("clerk 0 00 000;", 0, -1);
            Due.fault("clerk 0001 0001 0003;", 0, -1);
            Due.fault("clerk 0 0 00003;", 2, 10);
            Due.fault("tells 0009;", 0, -1);
            Due.fault("tells 00009;", 2, 6);
            Due.is("all digits count", RuleGives.like("1234+5678+90", 7002), true);
            Due.is("the least", RuleGives.like("0000", 0), true);
            Due.is("the most", RuleGives.like("9999", 9999), true);
            for (int sign = 0; sign < 256; sign++) {
                boolean digit = sign >= '0' && sign <= '9';
                boolean blank = sign == ' ' || sign == '\n';
                if (!digit && !blank && sign != ';') {
                    Due.fault("clerk 0 0 0" + (char) sign + ";", 1, 11);
                }
            }
        });
        says("signs ; ( ) + - * / < =", () -> {
            String signs = ";()+-*/<=";
            for (int sign = 33; sign < 256; sign++) {
                boolean other = signs.indexOf(sign) < 0 && !(sign >= 'a' && sign <= 'z') && !(sign >= '0' && sign <= '9');
                if (other) {
                    Due.fault("tells 1" + (char) sign + "1;", 1, 7);
                }
            }
            Due.fault("tells 1+1-1*1/1<(1)=1;", 1, 19);
            Due.fault("tells (1+1-1*1/1<1)=1;", 0, -1);
        });
        says("blanks (32, 10) between them count for nothing", () -> {
            String text = "clerk 0 1 2;tells(1+2)*3<4;";
            String wide = "\n clerk \n0  1\n\n2 ; \n tells ( 1 + 2\n) * 3 < 4 ;\n ";
            Due.fault(text, 0, -1);
            Due.fault(wide, 0, -1);
            for (int sign = 0; sign < 33; sign++) {
                boolean blank = sign == 32 || sign == 10;
                Due.fault("clerk 0 0 0" + (char) sign + ";", blank ? 0 : 1, blank ? -1 : 11);
            }
            Due.fault("cle rk 0 0 0;", 1, 0);
            Due.fault("clerk 0 0 0 0;", 1, 12);
        });
    }

    private static void notation() {
        says("In quotes is what stands there, [ ] perhaps, * any number of times, | one of some.", () -> {
            Due.fault("tells 1;", 0, -1);
            Due.fault("tells 1<1;", 0, -1);
            Due.fault("tells 1<1<1;", 1, 9);
            Due.fault("tells 1" + "+1".repeat(345) + ";", 0, -1);
            Due.fault("tells 1<=1;", 1, 8);
            Due.fault("clerk chief 0 0 0;", 1, 6);
        });
        says("OFFICES: LINE*.", () -> {
            Due.fault("", 0, -1);
            Due.fault(clerks(1), 0, -1);
            Due.fault("tells 1;" + clerks(8) + grudges(8) + lines(16) + "secret 1 0 0;".repeat(6), 0, -1);
            Due.fault(clerks(1) + "0", 1, 12);
        });
    }

    private static void statements() {
        says("LINE: (('clerk' | 'chief' | 'codist' | 'double' | 'unmoved') SIDE HIS FAMILY", () -> {
            WavingDesks x = Due.desks("clerk 0 1 2;unmoved 1 0 3;");
            Due.is("SIDE, HIS, FAMILY", x.agent(0, 1) * 100 + x.agent(0, 2) * 10 + x.agent(0, 3), 12);
            Due.is("SIDE, HIS, FAMILY", x.agent(1, 1) * 100 + x.agent(1, 2) * 10 + x.agent(1, 3), 103);
            Due.fault("clerk;", 1, 5);
            Due.fault("chief 0;", 1, 7);
            Due.fault("codist 0 0;", 1, 10);
            Due.fault("double 0 0 0 0;", 1, 13);
        });
        says("| 'line' AGENT AGENT DAYS", () -> {
            Due.fault(TWO + "line 0 1 1;", 0, -1);
            Due.fault(TWO + "line;", 1, 28);
            Due.fault(TWO + "line 0;", 1, 30);
            Due.fault(TWO + "line 0 1;", 1, 32);
            Due.fault(TWO + "line 0 1 1 1;", 1, 35);
        });
        says("| 'secret' WORTH SIDE AGENT", () -> {
            Due.fault(TWO + "secret 9 0 1;", 0, -1);
            Due.fault(TWO + "secret;", 1, 30);
            Due.fault(TWO + "secret 9;", 1, 32);
            Due.fault(TWO + "secret 9 0;", 1, 34);
            Due.fault(TWO + "secret 9 0 1 0;", 1, 37);
        });
        says("| 'grudge' AGENT AGENT", () -> {
            Due.fault(TWO + "grudge 0 1;", 0, -1);
            Due.fault(TWO + "grudge;", 1, 30);
            Due.fault(TWO + "grudge 0;", 1, 32);
            Due.fault(TWO + "grudge 0 1 0;", 1, 35);
        });
        says("| 'tells' EXPR) ';'", () -> {
            Due.fault("tells 0;", 0, -1);
            Due.fault("tells;", 1, 5);
            Due.fault("tells 0", 1, 7);
            Due.fault("tells 0 tells 0;", 1, 8);
            Due.fault("clerk 0 0 0 clerk 0 0 0;", 1, 12);
        });
        says("all in capitals but EXPR being NUMBERS", () -> {
            Due.fault("clerk worth 0 0;", 1, 6);
            Due.fault("clerk 0 (0) 0;", 1, 8);
            Due.fault("clerk 0 0 -1;", 1, 10);
            Due.fault(TWO + "line x 1 1;", 1, 29);
            Due.fault(TWO + "line 0 + 1;", 1, 31);
            Due.fault(TWO + "line 0 1 day;", 1, 33);
            Due.fault(TWO + "secret worth 0 1;", 1, 31);
            Due.fault(TWO + "secret 1 own 1;", 1, 33);
            Due.fault(TWO + "secret 1 0 to;", 1, 35);
            Due.fault(TWO + "grudge from 1;", 1, 31);
            Due.fault(TWO + "grudge 0 to;", 1, 33);
        });
    }

    private static void grammar() {
        says("EXPR: AND ('or' AND)*.", () -> {
            Due.is("and binds more", RuleGives.like("1 or 1 and 0", 1), true);
            Due.is("three of them", RuleGives.like("0 or 0 or 7", 1), true);
            Due.is("none holds", RuleGives.like("0 or 0 or 0", 0), true);
            Due.fault("tells 1 or;", 1, 10);
            Due.fault("tells or 1;", 3, 6);
        });
        says("AND: NOT ('and' NOT)*.", () -> {
            Due.is("three of them", RuleGives.like("1 and 2 and 3", 1), true);
            Due.is("the last doesn't hold", RuleGives.like("1 and 2 and 0", 0), true);
            Due.is("not binds more", RuleGives.like("not 0 and 0", 0), true);
            Due.fault("tells 1 and;", 1, 11);
            Due.fault("tells and 1;", 3, 6);
        });
        says("NOT: 'not' NOT | SUM [('<' | '=') SUM].", () -> {
            Due.is("a test binds more", RuleGives.like("not 1=2", 1), true);
            Due.is("a sum binds more", RuleGives.like("not 1-1", 1), true);
            Due.is("sums of both sides", RuleGives.like("1+1<1+2", 1), true);
            Due.fault("tells 1<not 1;", 3, 8);
            Due.fault("tells 1=1=1;", 1, 9);
            Due.fault("tells 1<;", 1, 8);
        });
        says("SUM: PRODUCT (('+' | '-') PRODUCT)*.", () -> {
            Due.is("a product binds more", RuleGives.like("2+3*4", 14), true);
            Due.is("either", RuleGives.like("9-2+1", 8), true);
            Due.fault("tells 1+;", 1, 8);
            Due.fault("tells +1;", 1, 6);
        });
        says("PRODUCT: PART (('*' | '/') PART)*.", () -> {
            Due.is("either", RuleGives.like("9/2*2", 8), true);
            Due.fault("tells 2*;", 1, 8);
            Due.fault("tells 2*-1;", 1, 8);
        });
        says("PART: NUMBER | VALUE | '(' EXPR ')'.", () -> {
            Due.is("a NUMBER", RuleGives.like("7", 7), true);
            Due.is("a VALUE", RuleGives.like("same", 1), true);
            Due.is("an EXPR", RuleGives.like("(not 1 or 1)", 1), true);
            Due.fault("tells ();", 1, 7);
            Due.fault("tells (1;", 1, 8);
            Due.fault("tells 1);", 1, 7);
        });
    }

    private static void arithmetic() {
        says("From the left", () -> {
            Due.is("-", RuleGives.like("7-2-3", 2), true);
            Due.is("+ and -", RuleGives.like("7-2+3", 8), true);
            Due.is("/", RuleGives.like("100/7/2", 7), true);
            Due.is("* and /", RuleGives.like("7/2*2", 6), true);
        });
        says("ints that wrap", () -> {
            Due.is("the least is below 0", RuleGives.holds(LEAST + "<0"), true);
            Due.is("one less is the most", RuleGives.holds("0<" + LEAST + "-1"), true);
            Due.is("the most and 1", RuleGives.holds("(" + LEAST + "-1)+1=" + LEAST), true);
            Due.is("the most twice", RuleGives.holds("(" + LEAST + "-1)*2=0-2"), true);
            Due.is("the most times the most", RuleGives.like("(" + LEAST + "-1)*(" + LEAST + "-1)", 1), true);
            Due.is("the least twice", RuleGives.like(LEAST + "+" + LEAST, 0), true);
            Due.is("the least, less than 0", RuleGives.holds("0-" + LEAST + "=" + LEAST), true);
            Due.is("the least by -1", RuleGives.holds(LEAST + "/(0-1)=" + LEAST), true);
            Due.is("2 to the 32nd", RuleGives.like("256*256*256*256", 0), true);
        });
        says("/ cut down to 0", () -> {
            Due.is("7/2", RuleGives.like("7/2", 3), true);
            Due.is("-7/2", RuleGives.holds("(0-7)/2=0-3"), true);
            Due.is("7/-2", RuleGives.holds("7/(0-2)=0-3"), true);
            Due.is("-7/-2", RuleGives.like("(0-7)/(0-2)", 3), true);
            Due.is("-1/2", RuleGives.like("(0-1)/2", 0), true);
            Due.is("1/2", RuleGives.like("1/2", 0), true);
        });
        says("by 0 gives 0", () -> {
            Due.is("7/0", RuleGives.like("7/0", 0), true);
            Due.is("0/0", RuleGives.like("0/0", 0), true);
            Due.is("-7/0", RuleGives.like("(0-7)/(3-3)", 0), true);
            Due.is("the least by 0", RuleGives.like(LEAST + "/0", 0), true);
            Due.is("and it goes on", RuleGives.like("7/0+5", 5), true);
        });
        says("tests, not, and, or are 1 or 0 (what isn't 0 holds)", () -> {
            Due.is("less", RuleGives.like("(1<2)", 1), true);
            Due.is("not less", RuleGives.like("(2<2)", 0), true);
            Due.is("like", RuleGives.like("(2=2)", 1), true);
            Due.is("unlike", RuleGives.like("(2=3)", 0), true);
            Due.is("not 0", RuleGives.like("(not 0)", 1), true);
            Due.is("not 9", RuleGives.like("(not 9)", 0), true);
            Due.is("not -1", RuleGives.like("(not 0-1)", 0), true);
            Due.is("not not 9", RuleGives.like("(not not 9)", 1), true);
            Due.is("2 and 4", RuleGives.like("(2 and 4)", 1), true);
            Due.is("-1 and -1", RuleGives.like("(0-1 and 0-1)", 1), true);
            Due.is("9 and 0", RuleGives.like("(9 and 0)", 0), true);
            Due.is("0 and 9", RuleGives.like("(0 and 9)", 0), true);
            Due.is("2 or 4", RuleGives.like("(2 or 4)", 1), true);
            Due.is("-1 or 0", RuleGives.like("(0-1 or 0)", 1), true);
            Due.is("0 or 0", RuleGives.like("(0 or 0)", 0), true);
        });
    }

    /** Whether a VALUE is so for a first one, another one and a SECRET of the first one's. */
    private static void value(String both, String secret, String value, int due) {
        WavingDesks x = Due.desks(both + "line 0 1 1;" + secret + "tells " + value + "=" + due + ";");
        Due.is(value + " of " + both + secret, x.line(0, 4), 1);
    }

    private static void values() {
        String s = "secret 5 0 0;";
        says("VALUES of one who could tell another one a SECRET: 'worth'", () -> {
            value(TWO, "secret 0 0 0;", "worth", 0);
            value(TWO, "secret 9 0 0;", "worth", 9);
        });
        says("'from', 'to' (KINDS of both)", () -> {
            value("clerk 0 0 0;unmoved 0 0 0;", s, "from*10+to", 4);
            value("unmoved 0 0 0;clerk 0 0 0;", s, "from*10+to", 40);
            value("chief 0 0 0;codist 0 0 0;", s, "from*10+to", 12);
            value("codist 0 0 0;double 0 0 0;", s, "from*10+to", 23);
        });
        says("'same' (1, if they sit on one SIDE, else 0)", () -> {
            for (int sides = 0; sides < 4; sides++) {
                String both = "clerk " + (sides & 1) + " 0 0;clerk " + (sides >> 1) + " 1 0;";
                value(both, s, "same", sides == 0 || sides == 3 ? 1 : 0);
            }
        });
        says("'loyal' (1, if the other one's SIDE is that whose the first one is, else 0)", () -> {
            for (int bits = 0; bits < 16; bits++) {
                int his = bits >> 1 & 1;
                int side = bits >> 2 & 1;
                String both = "clerk " + (bits & 1) + " " + his + " 0;clerk " + side + " " + (bits >> 3) + " 0;";
                value(both, s, "loyal", his == side ? 1 : 0);
            }
        });
        says("'kin' (1, if they are of one FAMILY, else 0)", () -> {
            for (int one = 0; one < 4; one++) {
                for (int other = 0; other < 4; other++) {
                    value("clerk 0 0 " + one + ";clerk 0 0 " + other + ";", s, "kin", one == other ? 1 : 0);
                }
            }
        });
        says("'day' (on which the first one knows it)", () -> {
            value(TWO, s, "day", 0);
            WavingDesks x = Due.desks(clerks(3) + "line 0 1 9;line 1 2 1;secret 1 0 0;tells day=0 or day=9;");
            Due.is("on DAY 9", x.knows(0, 2, 0), 10);
            WavingDesks y = Due.desks(TWO + "line 1 0 1;secret 1 0 0;tells day=60;");
            y.plant(0, 1, 60);
            Due.is("on DAY 60", y.line(0, 4), 1);
            y.undo();
            y.plant(0, 1, 59);
            Due.is("on DAY 59", y.line(0, 4), 0);
        });
        says("'own' (1, if the SECRET is of the SIDE whose the first one is, else 0)", () -> {
            for (int bits = 0; bits < 16; bits++) {
                int his = bits >> 1 & 1;
                int whose = bits >> 2 & 1;
                String both = "clerk " + (bits & 1) + " " + his + " 0;clerk 0 " + (bits >> 3) + " 0;";
                value(both, "secret 5 " + whose + " 0;", "own", his == whose ? 1 : 0);
            }
        });
    }
}
