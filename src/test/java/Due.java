/** What the project's tests share: answers that are due, and the end of a test. */
final class Due {
    private static int right = 0;
    private static int wrong = 0;

    private Due() { }

    static void due(String call, long got, long want) {
        if (got == want) {
            right++;
            return;
        }
        wrong++;
        if (wrong <= 40) {
            System.out.println(call + " answered " + got + ", due is " + want);
        }
    }

    static void end() {
        System.out.println(right + " as due, " + wrong + " not");
        if (wrong > 0 || right == 0) {
            System.exit(1);
        }
    }

    static boolean anyWrong() {
        return wrong > 0;
    }

    /** A text on the tape; the answer of law(). */
    static int law(HereMiss x, String text) {
        for (int i = 0; i < text.length(); i++) {
            x.feed(text.charAt(i));
        }
        return x.law();
    }

    /** A row of a sort with these elements on a shelf. */
    static void row(HereMiss x, int shelf, int sort, long... elements) {
        x.row(shelf, sort, elements.length);
        for (int i = 0; i < elements.length; i++) {
            x.put(shelf, i, elements[i]);
        }
    }

    /** Pupils of 10, 20, 30 .. tenths, by numbers; names run the other way round. */
    static HereMiss room(int pupils) {
        HereMiss x = new HereMiss();
        for (int i = 0; i < pupils; i++) {
            x.pupil(90 - i, 10 * (i + 1));
        }
        return x;
    }

    static void helps(HereMiss x, int one, int bold, int friends) {
        x.mend(one, 3, bold);
        x.mend(one, 4, friends);
    }
}
