import java.util.NoSuchElementException;

/** What the tests share: telling a text to an object, and comparing answers. */
final class Due {
    interface Call {
        Object make();
    }

    private static int wrong = 0;
    private static int checked = 0;
    /** The words of the document that are tested just now. */
    private static String saying = "";

    private Due() {
    }

    /** Feeds a text, with blanks behind it up to twenty bytes. */
    static void feed(WavingDesks x, String text) {
        for (int at = 0; at < text.length(); at += 20) {
            int[] n = new int[5];
            for (int i = 0; i < 20; i++) {
                int sign = at + i < text.length() ? text.charAt(at + i) & 255 : ' ';
                n[i / 4] = n[i / 4] << 8 | sign;
            }
            x.feed(n[0], n[1], n[2], n[3], n[4]);
        }
    }

    static int tell(WavingDesks x, String text) {
        feed(x, text);
        return x.offices(text.length());
    }

    static WavingDesks desks(String text) {
        WavingDesks x = new WavingDesks();
        is("offices(" + text + ")", tell(x, text), 0);
        return x;
    }

    static void is(String call, Object got, Object want) {
        checked++;
        if (!got.equals(want)) {
            wrong++;
            System.out.println(saying + call + " answered " + got + ", due is " + want);
        }
    }

    /** A test of its own for words of the document. */
    static void says(String section, String words, Runnable test) {
        Doc.quote(section, words);
        int before = checked;
        saying = "\"" + words + "\": ";
        test.run();
        is("it looks at something", checked > before, true);
        saying = "";
    }

    /** An exception's name, or the answer. */
    static Object answer(Call call) {
        try {
            return call.make();
        } catch (RuntimeException e) {
            return e.getClass().getSimpleName();
        }
    }

    static void noSuch(String name, Call call) {
        is(name, answer(call), NoSuchElementException.class.getSimpleName());
    }

    static void illegal(String name, Call call) {
        is(name, answer(call), IllegalArgumentException.class.getSimpleName());
    }

    /** A fault: its number and place, and that it counts once and changes nothing else. */
    static void fault(String text, int fault, int place) {
        WavingDesks x = new WavingDesks();
        is("offices(" + text + ")", tell(x, text), fault);
        is("fault() of " + text, x.fault(), place);
        is("count(13) of " + text, x.count(13), fault == 0 ? 0 : 1);
    }

    static void end(String test) {
        System.out.println(test + ": " + checked + " answers, " + wrong + " not as due");
        if (wrong != 0) {
            System.exit(1);
        }
    }
}
