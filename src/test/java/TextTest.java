/** Promises 1 to 4: a new object, the tape, the text and its faults. */
public final class TextTest {
    private static final String ONE = "clerk 0 0 0;";
    private static final String TWO = "clerk 0 0 0;clerk 1 1 1;";

    public static void main(String[] args) {
        newObject();
        tape();
        bytesHighestFirst();
        wrongLengths();
        rightTexts();
        tokens();
        tooMuch();
        notTold();
        again();
        expressions();
        faultChangesNothing();
        allAnew();
        Due.end("TextTest");
    }

    private static void newObject() {
        WavingDesks x = new WavingDesks();
        for (int what = 0; what < 16; what++) {
            Due.is("new count(" + what + ")", x.count(what), 0);
        }
        Due.is("new fault()", x.fault(), -1);
        Due.is("new undo()", x.undo(), -1);
        Due.is("new restore()", x.restore(), false);
        Due.is("new farthest()", x.farthest(), -1);
        Due.is("new dearest()", x.dearest(), -1);
        Due.is("new game(1)", x.game(1), 0);
        Due.noSuch("new agent(0, 0)", () -> x.agent(0, 0));
        Due.noSuch("new line(0, 0)", () -> x.line(0, 0));
        Due.noSuch("new secret(0, 0)", () -> x.secret(0, 0));
    }

    private static void tape() {
        WavingDesks x = new WavingDesks();
        for (int i = 1; i <= 35; i++) {
            Due.is("feed " + i, x.feed(0x20202020, 0x20202020, 0x20202020, 0x20202020, 0x20202020), 20 * i);
        }
        Due.is("feed 36", x.feed(0x78787878, 0, 0, 0, 0), -1);
        Due.is("tape", x.count(12), 700);
        Due.is("700 blanks", x.offices(700), 0);
        Due.is("tape behind", x.count(12), 0);
        Due.is("feed anew", x.feed(0, 0, 0, 0, 0), 20);
    }

    private static void bytesHighestFirst() {
        WavingDesks x = new WavingDesks();
        // "clerk 1 0 3;" and eight bytes that are not read
        x.feed(0x636c6572, 0x6b203120, 0x3020333b, 0xffffffff, 0x80818283);
        Due.is("twelve bytes", x.offices(12), 0);
        Due.is("SIDE", x.agent(0, 1), 1);
        Due.is("HIS", x.agent(0, 2), 0);
        Due.is("FAMILY", x.agent(0, 3), 3);
        Due.is("the rest is gone", x.count(12), 0);
        x.feed(0x636c6572, 0x6b203120, 0x3020333b, 0xffffffff, 0x80818283);
        Due.is("a byte above 127", x.offices(20), 1);
        Due.is("its place", x.fault(), 12);
    }

    private static void wrongLengths() {
        WavingDesks x = new WavingDesks();
        Due.illegal("offices(1) without a tape", () -> x.offices(1));
        Due.feed(x, "?");
        Due.is("a fault", x.offices(1), 1);
        Due.feed(x, ONE);
        Due.illegal("offices(-1)", () -> x.offices(-1));
        Due.illegal("offices(least)", () -> x.offices(Integer.MIN_VALUE));
        Due.illegal("offices(21)", () -> x.offices(21));
        Due.illegal("offices(most)", () -> x.offices(Integer.MAX_VALUE));
        Due.is("the tape stays", x.count(12), 20);
        Due.is("the fault stays", x.fault(), 0);
        Due.is("STATUS stays", x.count(13), 1);
        Due.is("nothing read", x.offices(0), 0);
        Due.is("empty then", x.count(12), 0);
        Due.is("nobody", x.count(0), 0);
    }

    private static void rightTexts() {
        Due.fault("", 0, -1);
        Due.fault(" \n ", 0, -1);
        Due.fault(ONE, 0, -1);
        Due.fault("clerk0 0 0;chief 1 1 3;", 0, -1);
        Due.fault("\nclerk\n0001 0000 003\n;", 0, -1);
        Due.fault(TWO + "line 0 1 9;line 1 0 1;secret 9 1 1;grudge 1 0;tells 1;", 0, -1);
        WavingDesks x = Due.desks("clerk 0 0 0;chief 0 1 1;codist 1 0 2;double 1 1 3;unmoved 0 1 2;"
            + "line 4 2 7;secret 8 1 3;grudge 3 1;");
        int[] kind = {0, 1, 2, 3, 4};
        int[] side = {0, 0, 1, 1, 0};
        int[] his = {0, 1, 0, 1, 1};
        int[] family = {0, 1, 2, 3, 2};
        for (int i = 0; i < 5; i++) {
            Due.is("KIND " + i, x.agent(i, 0), kind[i]);
            Due.is("SIDE " + i, x.agent(i, 1), side[i]);
            Due.is("HIS " + i, x.agent(i, 2), his[i]);
            Due.is("FAMILY " + i, x.agent(i, 3), family[i]);
        }
        Due.is("LINES", x.count(1), 1);
        Due.is("from", x.line(0, 0), 4);
        Due.is("to", x.line(0, 1), 2);
        Due.is("DAYS", x.line(0, 2), 7);
        Due.is("WORTH", x.secret(0, 0), 8);
        Due.is("whose", x.secret(0, 1), 1);
        Due.is("SOURCE", x.secret(0, 2), 3);
        Due.is("GRUDGES", x.count(3), 1);
    }

    private static void tokens() {
        Due.fault("x", 1, 0);
        Due.fault("  clerks 0 0 0;", 1, 2);
        Due.fault("Clerk 0 0 0;", 1, 0);
        Due.fault("alerk 0 0 0;", 1, 0);
        Due.fault("clerkz 0 0 0;", 1, 0);
        Due.fault("aclerk 0 0 0;", 1, 0);
        Due.fault("clerk`0 0 0;", 1, 5);
        Due.fault("clerk{0 0 0;", 1, 5);
        Due.fault("clerk 0 0 /;", 1, 10);
        Due.fault("clerk 0 0 :;", 1, 10);
        Due.fault("\tclerk 0 0 0;", 1, 0);
        Due.fault("clerk\r0 0 0;", 1, 5);
        Due.fault("clerk", 1, 5);
        Due.fault("clerk  ", 1, 7);
        Due.fault("clerk 0 0 0", 1, 11);
        Due.fault("clerk 0 0 0 ", 1, 12);
        Due.fault("clerk 0 0;", 1, 9);
        Due.fault("clerk 00 0;", 1, 10);
        Due.fault("clerk 0 0 0 0;", 1, 12);
        Due.fault("clerk 0 0 0;;", 1, 12);
        Due.fault(";", 1, 0);
        Due.fault("12345", 1, 0);
        Due.fault("clerk 0 0 0 12345", 1, 12);
        Due.fault("clerk 0 0 0 worth;", 1, 12);
        Due.fault("clerk x 0 0;", 1, 6);
        Due.fault("clerk - 0 0;", 1, 6);
        Due.fault("worth", 1, 0);
        Due.fault("not", 1, 0);
        Due.fault(ONE + ">", 1, 12);
        Due.fault(ONE + "secret 1 0 x;", 1, 23);
    }

    private static void tooMuch() {
        Due.fault("clerk 2 0 0;", 2, 6);
        Due.fault("clerk 0 2 0;", 2, 8);
        Due.fault("clerk 0 0 4;", 2, 10);
        Due.fault("clerk 00000 0 0;", 2, 6);
        Due.fault("clerk 0 99999999999 0;", 2, 8);
        Due.fault("clerk 0 0 4294967296;", 2, 10);
        Due.fault(ONE + "secret 10 0 0;", 2, 19);
        Due.fault(ONE + "secret 1 2 0;", 2, 21);
        Due.fault(TWO + "line 0 1 0;", 2, 33);
        Due.fault(TWO + "line 0 1 10;", 2, 33);
        String eight = ONE.repeat(8);
        Due.fault(eight, 0, -1);
        Due.fault(eight + "chief", 2, 96);
        Due.fault(eight + "unmoved 9 9 9;", 2, 96);
        StringBuilder lines = new StringBuilder(eight);
        for (int i = 1; i <= 7; i++) {
            lines.append("line 0 ").append(i).append(" 1;line ").append(i).append(" 0 1;");
        }
        lines.append("line 1 2 1;line 1 3 1;");
        Due.fault(lines.toString(), 0, -1);
        Due.fault(lines + "line", 2, lines.length());
        Due.fault(lines + " line 1 2 1;", 2, lines.length() + 1);
        String six = ONE + "secret 1 0 0;".repeat(6);
        Due.fault(six, 0, -1);
        Due.fault(six + "secret 9 9 9;", 2, six.length());
        StringBuilder grudges = new StringBuilder(eight);
        for (int i = 1; i <= 7; i++) {
            grudges.append("grudge 0 ").append(i).append(";");
        }
        grudges.append("grudge 1 2;");
        Due.fault(grudges.toString(), 0, -1);
        Due.fault(grudges + "grudge 9 9;", 2, grudges.length());
    }

    private static void notTold() {
        Due.fault("secret 1 0 0;", 3, 11);
        Due.fault("line 0 1 1;", 3, 5);
        Due.fault(ONE + "line 0 1 1;", 3, 19);
        Due.fault(TWO + "line 2 0 1;", 3, 29);
        Due.fault(TWO + "line 0 2 1;", 3, 31);
        Due.fault(TWO + "grudge 9999 0;", 3, 31);
        Due.fault(TWO + "grudge 0 8;", 3, 33);
        Due.fault(TWO + "grudge 0 00001;", 2, 33);
        Due.fault(ONE + "secret 1 0 1;clerk 0 0 0;", 3, 23);
    }

    private static void again() {
        Due.fault(TWO + "line 1 1 1;", 4, 31);
        Due.fault(TWO + "line 1 1 99;", 4, 31);
        Due.fault(TWO + "line 0 1 1;line 0 1 2;", 4, 42);
        Due.fault(TWO + "line 0 1 1;line 1 0 2;", 0, -1);
        Due.fault(TWO + "grudge 0 0;", 4, 33);
        Due.fault(TWO + "grudge 0 1;grudge 0 1;", 4, 44);
        Due.fault(TWO + "grudge 0 1;grudge 1 0;", 4, 44);
        Due.fault("tells 1;tells 1;", 5, 8);
        Due.fault("tells 1;tells", 5, 8);
        Due.fault("tells 0;clerk 0 0 0;tells x;", 5, 20);
    }

    private static void expressions() {
        Due.fault("tells 1+2*3-4/5<6 and not 7=8 or (9);", 0, -1);
        Due.fault("tells worth from;", 1, 12);
        Due.fault("tells worth+from-to*same/loyal<kin+day-own;", 0, -1);
        Due.fault("tells", 1, 5);
        Due.fault("tells ;", 1, 6);
        Due.fault("tells 1", 1, 7);
        Due.fault("tells 1 < 2 < 3;", 1, 12);
        Due.fault("tells 1 = 2 = 3;", 1, 12);
        Due.fault("tells (1;", 1, 8);
        Due.fault("tells 1);", 1, 7);
        Due.fault("tells ();", 1, 7);
        Due.fault("tells -1;", 1, 6);
        Due.fault("tells 1 not;", 1, 8);
        Due.fault("tells 1 + not 1;", 3, 10);
        Due.fault("tells 1 < not 1;", 3, 10);
        Due.fault("tells not or;", 3, 10);
        Due.fault("tells and;", 3, 6);
        Due.fault("tells clerk;", 3, 6);
        Due.fault("tells worths;", 3, 6);
        Due.fault("tells wort;", 3, 6);
        Due.fault("tells xorth;", 3, 6);
        Due.fault("tells 1 or x;", 3, 11);
        Due.fault("tells 1 or", 1, 10);
        Due.fault("tells 1 and x;", 3, 12);
        Due.fault("tells 1 and ;", 1, 12);
        Due.fault("tells 1*x;", 3, 8);
        Due.fault("tells 1/12345;", 2, 8);
        Due.fault("tells 1-x;", 3, 8);
        Due.fault("tells 1=x;", 3, 8);
        Due.fault("tells (x);", 3, 7);
        Due.fault("tells 9999;", 0, -1);
        Due.fault("tells 12345;", 2, 6);
        Due.fault("tells 1+00000;", 2, 8);
        Due.fault("tells (((((1)))));", 0, -1);
        Due.fault("tells ((((((1))))));", 2, 12);
        Due.fault("tells ((((((x))))));", 2, 12);
        Due.fault("tells ((((((not 1))))));", 2, 12);
        Due.fault("tells (((((((1)))))));", 2, 12);
        Due.fault("tells (((((())))));", 1, 12);
        Due.fault("tells ((((((+", 1, 12);
        Due.fault("tells ((((((", 1, 12);
        Due.fault("tells ((((((;", 1, 12);
        Due.fault("tells (1)+(1)+(1)+(1)+(1)+(1)+(1)+(1);", 0, -1);
        Due.fault("tells not not not not not not 1;", 0, -1);
        Due.fault("tells not not not not not not not 1;", 2, 30);
        Due.fault("tells not not not not not not x;", 3, 30);
        Due.fault("tells not not not not(not not not not 1);", 0, -1);
        Due.fault("tells not not not not 1 and not not not not 1;", 0, -1);
        Due.fault("tells " + "1+".repeat(346) + "1;", 0, -1);
        Due.fault("tells 1" + " ".repeat(693), 1, 700);
        Due.fault(" ".repeat(695) + "clerk", 1, 700);
        Due.fault(" ".repeat(693) + "tells 1", 1, 700);
        Due.fault(" ".repeat(693) + "tells (", 1, 700);
        Due.fault(" ".repeat(688) + ONE, 0, -1);
    }

    private static void faultChangesNothing() {
        WavingDesks x = Due.desks(TWO + "line 0 1 1;secret 4 0 0;grudge 0 1;tells 1;");
        x.burn(1, true);
        x.plant(0, 1, 3);
        x.see(0, 0, 1, true);
        x.image();
        x.cut(0, true);
        Due.is("fault", Due.tell(x, "chief 1 1 1;secret 1 1 0;x"), 1);
        int[] counts = {2, 1, 1, 1, 2, 1, 1, 1, 4, 2, 3, 1, 0, 1, 0, 0};
        for (int what = 0; what < 16; what++) {
            Due.is("count(" + what + ") behind a fault", x.count(what), counts[what]);
        }
        Due.is("KIND behind a fault", x.agent(0, 0), 0);
        Due.is("WORTH behind a fault", x.secret(0, 0), 4);
        Due.is("place", x.fault(), 25);
        Due.is("the rule stays", x.burn(1, false) && x.cut(0, false) && x.line(0, 4) == 1, true);
        Due.is("the image stays", x.restore(), true);
        Due.is("STATUS of the image", x.count(13), 0);
        Due.is("the fault's place is not of the image", x.fault(), 25);
    }

    private static void allAnew() {
        WavingDesks x = Due.desks(TWO + "line 0 1 1;secret 4 0 0;grudge 0 1;tells 1;");
        x.burn(1, true);
        x.burn(1, true);
        x.cut(0, true);
        x.turn(0);
        x.move(0);
        x.plant(0, 1, 3);
        x.see(0, 0, 1, true);
        x.see(0, 0, 100, true);
        x.image();
        Due.tell(x, "?");
        Due.is("anew", Due.tell(x, TWO + "line 0 1 1;secret 4 0 0;"), 0);
        int[] counts = {2, 1, 1, 0, 0, 0, 0, 0, 0, 1, 0, 0, 0, 1, 1, 1};
        for (int what = 0; what < 16; what++) {
            Due.is("count(" + what + ") anew", x.count(what), counts[what]);
        }
        Due.is("no fault any more", x.fault(), -1);
        Due.is("HIS anew", x.agent(0, 2), 0);
        Due.is("SIDE anew", x.agent(0, 1), 0);
        Due.is("no rule any more", x.line(0, 4), 0);
        Due.is("the image is gone", x.restore(), false);
        Due.is("the ACTS are gone", x.undo(), -1);
    }
}
