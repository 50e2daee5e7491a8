/** "Terms": the FAULTS, each at its place, and which of two comes first. */
final class EdgesOfFaults {
    private static final String TWO = EdgesOfTerms.TWO;
    private static final String[] WORDS = {"clerk", "chief", "codist", "double", "unmoved", "line", "secret", "grudge",
        "tells", "and", "or", "not", "worth", "from", "to", "same", "loyal", "kin", "day", "own", "x", "zz"};

    private EdgesOfFaults() {
    }

    static void run() {
        order();
        wrong();
        tooMuch();
        deep();
        unknown();
        again();
        nothingElse();
    }

    private static void says(String words, Runnable test) {
        Due.says("Terms", words, test);
    }

    private static boolean isValue(String word) {
        for (int i = 12; i < 20; i++) {
            if (WORDS[i].equals(word)) {
                return true;
            }
        }
        return false;
    }

    private static void order() {
        says("FAULTS, the first along the text", () -> {
            Due.fault("clerk 9 9 9;clerk", 2, 6);
            Due.fault("clerk 0 9 ?", 2, 8);
            Due.fault("clerk 0 ? 9", 1, 8);
            Due.fault("tells x+12345?", 3, 6);
            Due.fault("tells 12345+x?", 2, 6);
            Due.fault("tells 1;tells 1;?", 5, 8);
            Due.fault("tells 1?tells 1;", 1, 7);
            Due.fault(TWO + "line 0 0 0;", 4, 31);
            Due.fault(TWO + "line 7 7 0;", 3, 29);
            Due.fault(TWO + "secret 1 2 2;", 2, 33);
        });
        says("at a TOKEN's first byte", () -> {
            Due.fault("clerk   0 0 3333;", 2, 12);
            Due.fault("\n\n zebra 0", 1, 3);
            Due.fault("tells  zebra", 3, 7);
            Due.fault(TWO + "line 0001 0001 1;", 4, 34);
            Due.fault("tells 1;  tells 1;", 5, 10);
        });
        says("of one TOKEN the least", () -> {
            // a NUMBER of 5 digits that can't stand there: 1, not 2
            Due.fault("12345", 1, 0);
            Due.fault("clerk 0 0 0 12345;", 1, 12);
            Due.fault("tells 1 12345;", 1, 8);
            // of 5 digits and no AGENT, or the first one's: 2, not 3 or 4
            Due.fault(TWO + "line 99999 0 1;", 2, 29);
            Due.fault(TWO + "line 0 00000 1;", 2, 31);
            Due.fault(TWO + "grudge 0 99999;", 2, 33);
            Due.fault(TWO + "secret 1 0 99999;", 2, 35);
            // too deep and no VALUE: 2, not 3
            Due.fault("tells ((((((x", 2, 12);
        });
    }

    private static void wrong() {
        says("1 a TOKEN that can't stand there", () -> {
            for (int i = 9; i < WORDS.length; i++) {
                Due.fault(WORDS[i] + " 0 0 0;", 1, 0);
            }
            for (String word : WORDS) {
                Due.fault("clerk " + word + " 0 0;", 1, 6);
                Due.fault("clerk 0 0 0 " + word + ";", 1, 12);
                boolean goesOn = word.equals("and") || word.equals("or");
                Due.fault("tells 1 " + word + " 1;", goesOn ? 0 : 1, goesOn ? -1 : 8);
            }
            for (char sign : ";()+-*/<=".toCharArray()) {
                Due.fault("" + sign, 1, 0);
                Due.fault("clerk " + sign, 1, 6);
                Due.fault("clerk 0 0 0 " + sign + sign, 1, sign == ';' ? 13 : 12);
                if (sign != '(') {
                    Due.fault("tells " + sign + "1;", 1, 6);
                    Due.fault("tells (" + sign + "1);", 1, 7);
                    Due.fault("tells not " + sign + "1;", 1, 10);
                }
            }
            Due.fault("tells 1(1);", 1, 7);
            Due.fault("tells (1)(1);", 1, 9);
            Due.fault("tells (1 1);", 1, 9);
            Due.fault("tells (1;);", 1, 8);
        });
        says("or is none", () -> {
            for (int sign = 0; sign < 256; sign++) {
                boolean is = sign >= 'a' && sign <= 'z' || sign >= '0' && sign <= '9' || sign == ' ' || sign == '\n'
                    || ";()+-*/<=".indexOf(sign) >= 0;
                if (!is) {
                    Due.fault("" + (char) sign, 1, 0);
                    Due.fault("clerk 0 0 " + (char) sign, 1, 10);
                    Due.fault("tells " + (char) sign + "1;", 1, 6);
                    Due.fault("tells 1;" + (char) sign, 1, 8);
                }
            }
        });
        says("(the text's length where it ends too soon)", () -> {
            String[] texts = {TWO + "line 0 1 1;", TWO + "secret 1 0 1;", TWO + "grudge 0 1;", "unmoved 0 1 3;",
                "tells not (same+2)*3<4 and 1 or 2;"};
            for (String text : texts) {
                int from = text.startsWith(TWO) ? TWO.length() : 0;
                Due.fault(text, 0, -1);
                for (int length = from + 1; length < text.length(); length++) {
                    char last = text.charAt(length - 1);
                    char next = text.charAt(length);
                    boolean halfWord = last >= 'a' && last <= 'z' && next >= 'a' && next <= 'z';
                    if (!halfWord) {
                        Due.fault(text.substring(0, length), 1, length);
                        Due.fault(text.substring(0, length) + "  \n", 1, length + 3);
                    }
                }
            }
            Due.fault("tells 1" + " ".repeat(693), 1, 700);
            WavingDesks x = new WavingDesks();
            Due.feed(x, "clerk 0 0 0;");
            Due.is("the first bytes alone", x.offices(11), 1);
            Due.is("their length", x.fault(), 11);
            // a NUMBER and a word end with the text, though the tape goes on
            for (int length = 7; length <= 11; length++) {
                WavingDesks y = new WavingDesks();
                Due.feed(y, "tells 12345;");
                Due.is("the first " + length, y.offices(length), length == 11 ? 2 : 1);
                Due.is("the place", y.fault(), length == 11 ? 6 : length);
                WavingDesks z = new WavingDesks();
                Due.feed(z, "tells worths;");
                Due.is("the first " + length, z.offices(length), length == 11 ? 1 : 3);
                Due.is("the place", z.fault(), length == 11 ? 11 : 6);
            }
            Due.fault(" ".repeat(693) + "tells 1", 1, 700);
            Due.fault(" ".repeat(691) + "tells own", 1, 700);
            Due.fault(" ".repeat(693) + "tells (", 1, 700);
            Due.fault(" ".repeat(695) + "clerk", 1, 700);
        });
    }

    private static void tooMuch() {
        says("2 one that can, but is too much: a NUMBER of 5 digits or more", () -> {
            for (int digits = 1; digits <= 30; digits++) {
                String zeros = "0".repeat(digits);
                Due.fault("clerk " + zeros + " 0 0;", digits > 4 ? 2 : 0, digits > 4 ? 6 : -1);
                Due.fault("tells " + zeros + ";", digits > 4 ? 2 : 0, digits > 4 ? 6 : -1);
            }
            Due.fault("clerk 4294967296 0 0;", 2, 6);
            Due.fault("clerk 0 00001 0;", 2, 8);
            Due.fault("clerk 0 0 00001;", 2, 10);
            Due.fault(TWO + "line 00000 1 1;", 2, 29);
            Due.fault(TWO + "line 0 00001 1;", 2, 31);
            Due.fault(TWO + "line 0 1 00001;", 2, 33);
            Due.fault(TWO + "secret 00001 0 0;", 2, 31);
            Due.fault(TWO + "secret 1 00000 0;", 2, 33);
            Due.fault(TWO + "secret 1 0 00000;", 2, 35);
            Due.fault(TWO + "grudge 00000 1;", 2, 31);
            Due.fault(TWO + "grudge 0 00001;", 2, 33);
        });
        says("or (not in an EXPR) not as told", () -> {
            Due.fault("clerk 2 0 0;", 2, 6);
            Due.fault("clerk 0 2 0;", 2, 8);
            Due.fault("clerk 0 0 4;", 2, 10);
            Due.fault(TWO + "line 0 1 0;", 2, 33);
            Due.fault(TWO + "line 0 1 10;", 2, 33);
            Due.fault(TWO + "secret 10 0 0;", 2, 31);
            Due.fault(TWO + "secret 9 2 0;", 2, 33);
            Due.fault("tells 9999+0-10*4;", 0, -1);
        });
        says("the first TOKEN of the 9th AGENT, the 17th LINE, the 7th SECRET, the 9th GRUDGE", () -> {
            String eight = EdgesOfTerms.clerks(8);
            for (int i = 0; i < 5; i++) {
                Due.fault(eight + " " + WORDS[i], 2, 97);
                Due.fault(eight + WORDS[i] + " ?", 2, 96);
                Due.fault(EdgesOfTerms.clerks(7) + WORDS[i] + " 0 0 0;", 0, -1);
            }
            String lines = eight + EdgesOfTerms.lines(16);
            Due.fault(lines, 0, -1);
            Due.fault(lines + " line 0 1 1;", 2, lines.length() + 1);
            Due.fault(lines + "line", 2, lines.length());
            String secrets = eight + "secret 0 0 0;".repeat(6);
            Due.fault(secrets, 0, -1);
            Due.fault(secrets + " secret 0 0 0;", 2, secrets.length() + 1);
            Due.fault(secrets + "secret ?", 2, secrets.length());
            String grudges = eight + EdgesOfTerms.grudges(8);
            Due.fault(grudges, 0, -1);
            Due.fault(grudges + " grudge 0 2;", 2, grudges.length() + 1);
            Due.fault(grudges + "grudge 0 0;", 2, grudges.length());
            // each is full by itself
            Due.fault(lines + EdgesOfTerms.grudges(8) + "secret 0 0 0;".repeat(6) + "tells 1;", 0, -1);
        });
    }

    /** An EXPR within so many others. */
    private static String within(int others, String inside) {
        return "tells " + "(".repeat(others) + inside + ")".repeat(others) + ";";
    }

    private static void deep() {
        says("of an EXPR within 6 others (a NUMBER, any word, a parenthesis)", () -> {
            for (int others = 0; others < 6; others++) {
                Due.fault(within(others, "1"), 0, -1);
                Due.fault(within(others, "not own"), 0, -1);
            }
            Due.fault(within(5, "(1)"), 2, 12);
            Due.fault(within(6, "12345"), 2, 12);
            Due.fault(within(7, "1"), 2, 12);
            Due.fault(within(30, "1"), 2, 12);
            for (String word : WORDS) {
                Due.fault(within(6, word), 2, 12);
                Due.fault(within(5, word), isValue(word) ? 0 : word.equals("not") ? 1 : 3,
                    isValue(word) ? -1 : word.equals("not") ? 14 : 11);
            }
            // what can't stand at its beginning can't here, either
            for (char sign : ";)+-*/<=?".toCharArray()) {
                Due.fault("tells ((((((" + sign, 1, 12);
            }
            Due.fault("tells ((((((", 1, 12);
            Due.fault("tells ((((((  ", 1, 14);
            // the most that can stand open at once
            String open = "0 or 1 and 0<0+1*(".repeat(5) + "0 or 1 and 0<0+1*";
            Due.is("of 1", RuleGives.holds(open + "1" + ")".repeat(5)), true);
            Due.is("of 0", RuleGives.holds(open + "0" + ")".repeat(5)), false);
            Due.is("of the SIDE", RuleGives.holds(open + "same" + ")".repeat(5)), true);
            // side by side they are not within one another
            Due.fault("tells (((((1)))))+(((((1)))))*(((((1)))));", 0, -1);
            Due.fault("tells (((((1)))))+((((((1))))));", 2, 24);
            Due.fault("tells not ((((((1))))));", 2, 16);
            Due.fault("tells 1+((((((1))))));", 2, 14);
        });
        says("the seventh 'not' side by side", () -> {
            for (int nots = 0; nots <= 6; nots++) {
                Due.fault("tells " + "not ".repeat(nots) + "1;", 0, -1);
                Due.is(nots + " of them", RuleGives.holds("not ".repeat(nots) + "1"), nots % 2 == 0);
            }
            Due.fault("tells " + "not ".repeat(7) + "1;", 2, 30);
            Due.fault("tells " + "not ".repeat(60) + "1;", 2, 30);
            Due.fault("tells " + "not ".repeat(6) + "not", 2, 30);
            Due.fault("tells " + "not ".repeat(6), 1, 30);
            Due.fault("tells " + "not ".repeat(6) + "(" + "not ".repeat(6) + "1);", 0, -1);
            Due.fault("tells " + "not ".repeat(6) + "1 and " + "not ".repeat(6) + "1 or " + "not ".repeat(6) + "1;", 0, -1);
            Due.fault("tells 1 and " + "not ".repeat(7) + "1;", 2, 36);
            Due.fault("tells (" + "not ".repeat(7) + "1);", 2, 31);
        });
    }

    private static void unknown() {
        says("3 any word where a PART must stand that is no VALUE", () -> {
            String[] ahead = {"", "1+", "1-", "1*", "1/", "1<", "1=", "1 and ", "1 or ", "not ", "("};
            for (String word : WORDS) {
                for (String before : ahead) {
                    String text = "tells " + before + word;
                    boolean begins = before.isEmpty() || before.equals("(") || before.endsWith(" ");
                    if (isValue(word) || word.equals("not") && begins) {
                        Due.fault(text, 1, text.length());
                    } else {
                        Due.fault(text, 3, 6 + before.length());
                    }
                }
            }
            Due.fault("tells worths;", 3, 6);
            Due.fault("tells wort;", 3, 6);
            Due.fault("tells o;", 3, 6);
        });
        says("an AGENT that isn't told ahead", () -> {
            for (int told = 0; told <= 8; told++) {
                String agents = EdgesOfTerms.clerks(told);
                Due.fault(agents + "secret 1 0 " + told + ";", 3, agents.length() + 11);
                Due.fault(agents + "secret 1 0 9999;", 3, agents.length() + 11);
                Due.fault(agents + "line " + told + " 0 1;", 3, agents.length() + 5);
                Due.fault(agents + "grudge " + told + " 0;", 3, agents.length() + 7);
                if (told > 0) {
                    Due.fault(agents + "secret 1 0 " + (told - 1) + ";", 0, -1);
                    Due.fault(agents + "line 0 " + told + " 1;", 3, agents.length() + 7);
                    Due.fault(agents + "grudge 0 " + told + ";", 3, agents.length() + 9);
                }
            }
            Due.fault("secret 1 0 0;clerk 0 0 0;", 3, 11);
            Due.fault("clerk 0 0 0;line 0 1 1;clerk 0 0 0;", 3, 19);
        });
    }

    private static void again() {
        says("4 the second AGENT of a LINE that is the first one", () -> {
            Due.fault(TWO + "line 0 0 1;", 4, 31);
            Due.fault(TWO + "line 1 1 ?", 4, 31);
            Due.fault(TWO + "line 1 0001 1;", 4, 31);
        });
        says("or to whom there is one from it already", () -> {
            Due.fault(TWO + "line 0 1 1;line 0 1 9;", 4, 42);
            Due.fault(TWO + "line 0 1 1;line 1 0 1;", 0, -1);
            Due.fault(TWO + "line 0 1 1;line 1 0 1;line 1 0 1;", 4, 53);
            String lines = EdgesOfTerms.clerks(8) + EdgesOfTerms.lines(15);
            Due.fault(lines + "line 2 0 1;", 4, lines.length() + 7);
            Due.fault(lines + "line 0 7 1;", 4, lines.length() + 7);
            Due.fault(lines + "line 0 0 1;", 4, lines.length() + 7);
        });
        says("of a GRUDGE that is the first one", () -> {
            Due.fault(TWO + "grudge 0 0;", 4, 33);
            Due.fault(TWO + "grudge 1 1?", 4, 33);
        });
        says("or with whom it has one (either way round)", () -> {
            Due.fault(TWO + "grudge 0 1;grudge 0 1;", 4, 44);
            Due.fault(TWO + "grudge 0 1;grudge 1 0;", 4, 44);
            Due.fault(TWO + "grudge 1 0;grudge 0 1;", 4, 44);
            String grudges = EdgesOfTerms.clerks(8) + EdgesOfTerms.grudges(7);
            Due.fault(grudges + "grudge 7 6;", 4, grudges.length() + 9);
            Due.fault(grudges + "grudge 0 7;", 0, -1);
            // a LINE is no GRUDGE
            Due.fault(TWO + "line 0 1 1;grudge 0 1;", 0, -1);
        });
        says("5 a second 'tells'", () -> {
            Due.fault("tells 0;tells 0;", 5, 8);
            Due.fault("tells 0;tells", 5, 8);
            Due.fault("tells 0;tells ?", 5, 8);
            Due.fault("tells 0;clerk 0 0 0;tells 0;", 5, 20);
        });
    }

    private static void nothingElse() {
        String[] texts = {"?", "clerk 2 0 0;", "chief 0 0 0;secret 1 0 1;", "clerk 0 0 0;clerk 1 1 1;line 0 0 1;",
            "tells 0;tells 0;", "clerk 0 0 0;clerk 0 0 0;line 0 1 1;secret 9 0 0;grudge 0 1;tells 0", "x y"};
        int[] faults = {1, 2, 3, 4, 5, 1, 1};
        int[] places = {0, 6, 23, 31, 8, 66, 0};
        Twins.Make withoutTape = () -> {
            WavingDesks x = Twins.BUSY.make();
            x.offices(14);
            return x;
        };
        Due.says("Promise 3", "or the FAULT (all stays, but STATUS)", () -> {
            for (int i = 0; i < texts.length; i++) {
                Twins.fault(texts[i], withoutTape, faults[i], places[i]);
                Twins.fault(texts[i], Twins.NEW, faults[i], places[i]);
            }
        });
    }
}
