/** Calls that are refused by an exception: each on three objects, with nothing changed by it. */
final class Refused {
    interface Wrong {
        Object of(WavingDesks x, int n);
    }

    private static final Twins.Make[] MAKES = {Twins.BUSY, Twins.FULL, Twins.NEW};
    private static final int LEAST = Integer.MIN_VALUE;
    private static final int MOST = Integer.MAX_VALUE;

    private Refused() {
    }

    /** The numbers ahead of the first and behind the last AGENT (0 of count), LINE (1) or SECRET (2). */
    static void beyond(int sort, String call, Wrong use) {
        for (Twins.Make make : MAKES) {
            int many = make.make().count(sort);
            each("NoSuchElementException", call, make, use, LEAST, -1, many, many + 1, 1000, MOST);
        }
    }

    /** The numbers below 0 and above the most, on an object where all else is there. */
    static void what(int most, String call, Wrong use) {
        each("NoSuchElementException", call, Twins.BUSY, use, LEAST, -1, most + 1, most + 2, 1000, MOST);
    }

    static void each(String exception, String call, Twins.Make make, Wrong use, int... numbers) {
        Twins.Use all = x -> {
            StringBuilder answers = new StringBuilder();
            for (int n : numbers) {
                answers.append(Due.answer(() -> use.of(x, n))).append(' ');
            }
            return answers.toString();
        };
        Twins.nothingChanges(call, make, all, (exception + " ").repeat(numbers.length));
    }
}
