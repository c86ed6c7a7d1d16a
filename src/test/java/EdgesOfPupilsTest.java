/**
 * Promises 1 to 7 at the edges that the document names: the last value that is allowed, the first
 * that isn't, and rooms and tapes that are empty or full. What a refused call leaves: RefusedTest.
 */
public final class EdgesOfPupilsTest {
    public static void main(String[] args) {
        newObject();
        pupil();
        pupilsOfARow();
        pupilsPlaces();
        pupilsUntilFull();
        mendAndOf();
        tape();
        lawLengths();
        lawNumbers();
        lawOpen();
        lawLines();
        lawWraps();
        lawHeld();
        lawTables();
        Due.end();
    }

    private static HereMiss eight() {
        return Due.room(8);
    }

    private static String many(String text, int times) {
        StringBuilder many = new StringBuilder();
        for (int i = 0; i < times; i++) {
            many.append(text);
        }
        return many.toString();
    }

    private static void newObject() {
        HereMiss x = new HereMiss();
        for (int number = 0; number < 8; number++) {
            Due.due("1: no pupil " + number, x.of(number, 1), HereMiss.VOID);
        }
        for (int way = 0; way < 3; way++) {
            Due.due("1: nobody in the order", x.order(way, 0), -2);
            Due.due("1: no tenths", x.called(90 + way, 255, 1), 0);
            Due.due("1: no FALSE a day", x.day(10, way, 1), 0);
            Due.due("1: no mornings", x.drawn(7, 500 + way, 0, 1), 0);
        }
        for (int shelf = 0; shelf < 6; shelf++) {
            Due.due("1: no VOICE", x.taken(shelf, 0), -11);
            Due.due("1: no element", x.element(shelf, 0), Long.MIN_VALUE);
            Due.due("1: no register", x.judge(shelf, 0), -11);
            Due.due("1: nothing to shift", x.shift(shelf, 0, shelf, 0, 0), -11);
        }
        Due.due("1: no TRACE", x.trace(0), -1);
        Due.due("1: no BODY", x.keep(0, 0), -1);
        Due.due("1: nothing on THE TAPE", x.law(), -100);
    }

    private static void pupil() {
        int[][] allowed = {{0, 1}, {99, 99}, {0, 99}, {99, 1}};
        int[][] not = {{-1, 1}, {100, 99}, {0, 0}, {99, 100}, {Integer.MIN_VALUE, 1}, {Integer.MAX_VALUE, 1},
            {0, Integer.MIN_VALUE}, {0, Integer.MAX_VALUE}};
        HereMiss x = new HereMiss();
        for (int i = 0; i < 4; i++) {
            for (int[] no : not) {
                Due.due("2: not " + no[0] + ", " + no[1], x.pupil(no[0], no[1]), -1);
            }
            Due.due("2: no number is lost by it", x.pupil(allowed[i][0], allowed[i][1]), i);
            Due.due("2: its NAME", x.of(i, 0), allowed[i][0]);
            Due.due("2: its SLOW", x.of(i, 1), allowed[i][1]);
        }
        for (int i = 4; i < 7; i++) {
            x.pupil(5, 5);
        }
        Due.due("2: the eighth", x.pupil(6, 7), 7);
        Due.due("2: the ninth", x.pupil(8, 9), -3);
        Due.due("42: eight PUPILS", x.count(0), 8);
        Due.due("2: the eighth stays", x.of(7, 0), 6);
        Due.due("5: no number 8", x.of(8, 0), HereMiss.VOID);
    }

    private static void pupilsOfARow() {
        int[][] threes = {{0, 1, -1}, {99, 99, 15}, {0, 99, 0}, {99, 1, 255}, {256, 257, 271}};
        int[][] due = {{0, 1, -1}, {99, 99, 15}, {0, 99, 0}, {99, 1, -1}, {0, 1, 15}};
        for (int i = 0; i < threes.length; i++) {
            HereMiss x = new HereMiss();
            Due.row(x, 5, 0, threes[i][0], threes[i][1], threes[i][2]);
            Due.due("3: allowed " + i, x.pupils(5, 0, 1), 1);
            for (int what = 0; what < 3; what++) {
                Due.due("3: allowed " + i + ", " + what, x.of(0, what), due[i][what]);
            }
        }
        int[][] not = {{-1, 1, 0}, {100, 1, 0}, {128, 1, 0}, {127, 1, 0}, {5, 0, 0}, {5, 100, 0}, {5, -1, 0}, {5, 128, 0},
            {5, 5, -2}, {5, 5, 16}, {5, 5, 127}, {5, 5, 128}};
        for (int[] no : not) {
            HereMiss x = new HereMiss();
            Due.row(x, 0, 0, no[0], no[1], no[2], 7, 8, 9);
            Due.due("3: not " + no[0] + ", " + no[1] + ", " + no[2], x.pupils(0, 0, 2), 0);
            Due.due("3: nobody came behind one that is not so", x.count(0), 0);
            Due.due("3: from behind it", x.pupils(0, 3, 2), 1);
        }
    }

    private static void pupilsPlaces() {
        int[][] places = {{0, 1}, {57, 1}, {58, 0}, {59, 0}, {60, 0}, {61, 0}, {-1, 0}, {-3, 0}, {Integer.MAX_VALUE, 0},
            {Integer.MAX_VALUE - 1, 0}, {Integer.MAX_VALUE - 2, 0}, {Integer.MAX_VALUE - 3, 0}, {Integer.MIN_VALUE, 0}};
        for (int[] place : places) {
            HereMiss x = new HereMiss();
            x.row(2, 0, 60);
            for (int i = 0; i < 60; i++) {
                x.put(2, i, 1 + i % 9);
            }
            Due.due("3: of sixty, from " + place[0], x.pupils(2, place[0], 1), place[1]);
            Due.due("42: came", x.count(0), place[1]);
        }
        HereMiss x = new HereMiss();
        Due.row(x, 0, 0, 1, 1, 1, 2, 2, 2);
        Due.due("3: it ends behind the last three", x.pupils(0, 3, 2), 1);
        Due.due("3: it ends within a three, of two", x.pupils(0, 4, 1), 0);
        Due.due("3: it ends within a three, of one", x.pupils(0, 5, 1), 0);
        x.row(0, 0, 2);
        Due.due("3: a row of two", x.pupils(0, 0, 1), 0);
        x.row(0, 0, 0);
        Due.due("3: a row of none", x.pupils(0, 0, 8), 0);
        Due.due("3: a missing row, 8", x.pupils(1, 0, 8), 0);
        Due.due("3: a missing row, 9", x.pupils(1, 0, 9), -1);
        Due.due("3: a missing row, 0", x.pupils(1, 0, 0), -1);
        Due.due("3: a missing row, far", x.pupils(1, 60, 1), 0);
        x.row(1, 1, 3);
        x.keep(2, x.body(7));
        for (int place : new int[] {0, 3, 60, -1}) {
            Due.due("3: shorts at " + place, x.pupils(1, place, 1), -12);
            Due.due("3: a voice at " + place, x.pupils(2, place, 1), -12);
        }
        Due.due("42: one came in all", x.count(0), 1);
    }

    private static void pupilsUntilFull() {
        HereMiss x = new HereMiss();
        x.row(0, 0, 27);
        for (int i = 0; i < 27; i++) {
            x.put(0, i, 1 + i / 3);
        }
        x.pupil(77, 7);
        Due.due("3: seven of eight, then FULL", x.pupils(0, 0, 8), 7);
        Due.due("3: those ahead came", x.of(7, 0), 7);
        Due.due("3: none more", x.pupils(0, 0, 8), 0);
        Due.due("3: FULL, and no three either", x.pupils(0, 27, 8), 0);
        Due.due("42: eight", x.count(0), 8);
        Due.due("2: FULL, too", x.pupil(1, 1), -3);
        HereMiss y = new HereMiss();
        y.row(0, 0, 27);
        for (int i = 0; i < 27; i++) {
            y.put(0, i, 1 + i / 3);
        }
        Due.due("3: eight at once", y.pupils(0, 3, 8), 8);
        Due.due("3: the last of them", y.of(7, 2), 9);
        Due.due("3: no change that could be undone", y.undo(), -5);
    }

    private static void mendAndOf() {
        int[] least = {0, 1, -1, 0, 0, 0, 0, 0, 0, 0};
        int[] most = {99, 99, 15, 7, 255, 9, 9, 999, 99, 99};
        HereMiss x = eight();
        for (int what = 0; what < 10; what++) {
            int number = what < 8 ? 7 : 0;
            int was = x.of(number, what);
            for (int v : new int[] {least[what] - 1, most[what] + 1, Integer.MIN_VALUE, Integer.MAX_VALUE}) {
                Due.due("4: what " + what + ", " + v, x.mend(number, what, v), HereMiss.VOID);
            }
            Due.due("4: it is as it was", x.of(number, what), was);
            Due.due("4: the greatest", x.mend(number, what, most[what]), was);
            Due.due("5: the greatest", x.of(number, what), most[what]);
            Due.due("4: the least", x.mend(number, what, least[what]), most[what]);
            Due.due("5: the least", x.of(number, what), least[what]);
            for (int other : new int[] {-1, 8, Integer.MIN_VALUE, Integer.MAX_VALUE}) {
                Due.due("4: number " + other, x.mend(other, what, most[what]), HereMiss.VOID);
                Due.due("5: number " + other, x.of(other, what), HereMiss.VOID);
            }
        }
        for (int number = 1; number < 8; number++) {
            Due.due("4: GAP is number 0's", x.mend(number, 8, 5), HereMiss.VOID);
            Due.due("4: COUNTS is number 0's", x.mend(number, 9, 5), HereMiss.VOID);
            Due.due("5: GAP is number 0's", x.of(number, 8), HereMiss.VOID);
            Due.due("5: COUNTS is number 0's", x.of(number, 9), HereMiss.VOID);
        }
        for (int what : new int[] {-1, 10, 11, Integer.MIN_VALUE, Integer.MAX_VALUE}) {
            Due.due("4: what " + what, x.mend(0, what, 1), HereMiss.VOID);
            Due.due("5: what " + what, x.of(0, what), what == 10 ? 0 : HereMiss.VOID);
        }
        Due.due("5: number 8 has no MARKS", x.of(8, 10), HereMiss.VOID);
        Due.due("5: number -1 has no MARKS", x.of(-1, 10), HereMiss.VOID);
    }

    private static void tape() {
        HereMiss x = new HereMiss();
        for (int letter : new int[] {-1, 256, Integer.MIN_VALUE, Integer.MAX_VALUE}) {
            Due.due("6: " + letter, x.feed(letter), -1);
        }
        Due.due("42: none came", x.count(1), 0);
        for (int i = 1; i < 120; i++) {
            x.feed('7' - i % 2);
        }
        Due.due("6: the last", x.feed(255), 120);
        Due.due("6: one more", x.feed('1'), -3);
        Due.due("6: and one more", x.feed(0), -3);
        Due.due("42: a full TAPE", x.count(1), 120);
        Due.due("7: of a full TAPE", x.law(), -104);
        Due.due("42: empty then", x.count(1), 0);
        Due.due("6: and so the first", x.feed(255), 1);
    }

    private static void lawLengths() {
        HereMiss x = Due.room(1);
        Due.due("7: 120 bytes", Due.law(x, many("0+", 58) + "1234"), 1);
        Due.due("7: all of them", x.called(1, 0, 1), 999);
        Due.due("7: a FAULT at the 119th", Due.law(x, many("0+", 59) + "+1"), -100 - 118);
        Due.due("7: the 120th on ends too early", Due.law(x, many("1*", 60)), -220);
        Due.due("7: the law stays", x.called(1, 0, 1), 999);
        x = Due.room(1);
        Due.due("7: 120 bytes of thirty LINES", Due.law(x, many("0?9;", 29) + "!0+7"), 1);
        Due.due("7: the last of them counts", x.called(1, 0, 1), 8);
        Due.due("7: 120 bytes, of which no LINE counts", Due.law(x, many("0?9;", 29) + "!1?7"), 1);
        Due.due("7: none: 0, held at 1", x.called(1, 0, 1), 1);
        x = Due.room(1);
        Due.due("7: one that is cut off", Due.law(x, many("1*", 60) + "1"), -220);
        Due.due("7: without a text still", x.called(1, 0, 1), 10);
        Due.due("7: one whose end is cut off", Due.law(x, many("1*", 59) + "22*5"), 1);
        Due.due("7: without what is cut off", x.called(1, 0, 1), 22);
        Due.due("7: empty", x.law(), -100);
        Due.due("7: the law stays still", x.called(1, 0, 1), 22);
    }

    private static void lawNumbers() {
        HereMiss x = Due.room(1);
        Due.due("7: 1 digit", Due.law(x, "8"), 1);
        Due.due("7: so many", x.called(1, 0, 1), 8);
        Due.due("7: 4 digits", Due.law(x, "9999/11"), 1);
        Due.due("7: so many", x.called(1, 0, 1), 909);
        Due.due("7: 4 digits from 0", Due.law(x, "0077"), 1);
        Due.due("7: so many", x.called(1, 0, 1), 77);
        Due.due("7: 5 digits", Due.law(x, "12345"), -104);
        Due.due("7: 5 digits from 0", Due.law(x, "00012"), -104);
        Due.due("7: 5 digits behind a sign", Due.law(x, "s-99999"), -106);
        Due.due("7: 5 digits in brackets", Due.law(x, "(12345)"), -105);
        Due.due("7: no digits", Due.law(x, "1+"), -102);
        Due.due("7: a blank", Due.law(x, "1 +2"), -101);
        Due.due("7: a blank first", Due.law(x, " 1"), -100);
        Due.due("7: a blank last", Due.law(x, "1 "), -101);
        Due.due("7: the byte ahead of 0", Due.law(x, "/"), -100);
        Due.due("7: the byte behind 9", Due.law(x, ":"), -100);
        Due.due("7: behind a digit, too", Due.law(x, "1:"), -101);
        String names = "sgkpwl";
        for (char c = 0; c < 256; c++) {
            boolean begins = names.indexOf(c) >= 0 || c >= '0' && c <= '9';
            boolean opens = c == '(' || c == '!' || c == '-';
            Due.due("7: the byte " + (int) c, Due.law(new HereMiss(), "" + c), begins ? 1 : opens ? -101 : -100);
        }
        Due.due("7: the law stays by all of these", x.called(1, 0, 1), 77);
    }

    private static void lawOpen() {
        String[] signs = {"!", "-", "("};
        for (String one : signs) {
            for (int n = 0; n <= 6; n++) {
                String opened = many(one, n) + many("!", 6 - n);
                String closed = many(")", one.equals("(") ? n : 0);
                HereMiss x = Due.room(1);
                Due.due("7: six are open, " + n + " of " + one, Due.law(x, opened + "g" + closed), 1);
                Due.due("7: in each of two", Due.law(x, opened + "g" + closed + "+" + opened + "g" + closed), 1);
                Due.due("7: a seventh, !", Due.law(x, opened + "!g" + closed), -106);
                Due.due("7: a seventh, -", Due.law(x, opened + "-g" + closed), -106);
                Due.due("7: a seventh, (", Due.law(x, opened + "(g)" + closed), -106);
                Due.due("7: a seventh in the second", Due.law(x, opened + "g" + closed + "*" + opened + "!g"),
                    -100 - (opened.length() + 1 + closed.length() + 1 + 6));
            }
        }
        HereMiss x = Due.room(1);
        Due.due("7: - between two is not open", Due.law(x, "((((((9-1-1-1-1-1-1-1))))))"), 1);
        Due.due("7: so many", x.called(1, 0, 1), 2);
        Due.due("7: what is closed is not open", Due.law(x, "(((((1)+(1)+(1)+(1)+(1)+(1)))))"), 1);
        Due.due("7: so many", x.called(1, 0, 1), 6);
        Due.due("7: ! ahead of a name is not open behind it", Due.law(x, "!!!!!(!s+!s+!s)"), -100 - 6);
        Due.due("7: nor by one less", Due.law(x, "!!!!(!s+!s+!s+7)"), 1);
        Due.due("7: it is 1", x.called(1, 0, 1), 1);
        Due.due("7: in the E behind ?", Due.law(x, "!!!!!!1?!!!!!!!1"), -100 - 14);
        Due.due("7: in the next LINE", Due.law(x, "!!!!!!1;!!!!!!!1"), -100 - 14);
        Due.due("7: six in each", Due.law(x, "!!!!!!0?!!!!!!1;------7"), 1);
        Due.due("7: the second LINE's", x.called(1, 0, 1), 7);
        Due.due("7: too early within six", Due.law(x, "(((((("), -106);
        Due.due("7: one ) lacks", Due.law(x, "((((((1)))))"), -112);
        Due.due("7: one ) too many", Due.law(x, "((((((1)))))))"), -113);
    }

    private static void lawLines() {
        Object[][] texts = {
            {"0?1;0?2;0?3;44", 44}, {"0?1;1?22;0?3;44", 22}, {"1?11;1?22", 11}, {"0?11", 1}, {"0?11;0?22", 1},
            {"9;8?77", 9}, {"-1?12", 12}, {"1-1?12;13", 13}, {"9999-9998?15", 15}, {"2?16;17", 16}, {"0-7?18;19", 18},
            {"7?0;5", 1}, {"(0|0)?3;4", 4}, {"1/0?5;1%0?6;7", 7},
        };
        for (Object[] text : texts) {
            HereMiss x = Due.room(1);
            Due.due("7: " + text[0], Due.law(x, (String) text[0]), 1);
            Due.due("7: the LINE of " + text[0] + " that counts", x.called(1, 0, 1), ((Integer) text[1]).intValue());
        }
        HereMiss looked = Due.room(1);
        Due.law(looked, "0+5+l*100");
        Due.due("7: 0 is 0", looked.called(1, 0, 1), 5);
        Due.due("7: 0 is 0 if she LOOKS, too", looked.called(1, 1, 1), 105);
        String[] faulty = {"1;;2", "1;", ";1", "1?", "?1", "1?2?3", "1?;2", "1?2;?", "(1;2)", "(1?2)"};
        int[] at = {2, 2, 0, 2, 0, 3, 2, 4, 2, 2};
        for (int i = 0; i < faulty.length; i++) {
            Due.due("7: FAULT of " + faulty[i], Due.law(new HereMiss(), faulty[i]), -100 - at[i]);
        }
        Due.due("7: sixty LINES", Due.law(new HereMiss(), many("s;", 59) + "s"), 1);
        Due.due("7: a second comparison", Due.law(new HereMiss(), "1=1=1"), -103);
        Due.due("7: one on each side of &", Due.law(new HereMiss(), "1=1&1=1|1<2&2>1"), 1);
        Due.due("7: one behind ?", Due.law(new HereMiss(), "1=1?1=1"), 1);
        Due.due("7: a second within brackets", Due.law(new HereMiss(), "1=(1=1)"), 1);
        Due.due("7: a second behind brackets", Due.law(new HereMiss(), "1=(1)=1"), -105);
    }

    /** 2147483647 as 9999 times 9999 and so on, told piece by piece. */
    private static void lawWraps() {
        String max = "(9999*9999*21+4790*9999+8416)";
        Due.due("7: by hand", 9999 * 9999 * 21 + 4790 * 9999 + 8416, Integer.MAX_VALUE);
        Object[][] texts = {
            {max + "-" + max + "+5", 5}, {max + "+1<0?66;77", 66}, {max + "<0?66;77", 77}, {"-" + max + "-1<0?66;77", 66},
            {"-" + max + "-2>0?66;77", 66}, {max + "*2+2+31", 31}, {max + "*" + max + "+40", 41},
            {"-(-" + max + "-1)<0?66;77", 66}, {"(-" + max + "-1)/-1<0?66;77", 66}, {"(-" + max + "-1)%-1+8", 8},
            {"!" + max + "+4", 4}, {max + "&" + max + "+1?66;77", 66}, {max + "%1000", 647}, {"-7/2+10", 7}, {"-7%4+10", 7},
            {"7/-2+10", 7}, {"7%-4+10", 13}, {"-7/-2+10", 13}, {"6/0+3", 3}, {"6%0+3", 3}, {"0/0+3", 3}, {"0%0+3", 3},
            {"-6/0+3", 3}, {"6/(1-1)+3", 3},
        };
        for (Object[] text : texts) {
            HereMiss x = Due.room(1);
            Due.due("7: " + text[0], Due.law(x, (String) text[0]), 1);
            Due.due("7: ints that wrap, / and %: " + text[0], x.called(1, 0, 1), ((Integer) text[1]).intValue());
        }
    }

    private static void lawHeld() {
        Object[][] texts = {{"0", 1}, {"1", 1}, {"2", 2}, {"-1", 1}, {"998", 998}, {"999", 999}, {"1000", 999},
            {"9999*9999", 999}, {"-9999*9999", 1}};
        for (Object[] text : texts) {
            HereMiss x = eight();
            int due = ((Integer) text[1]).intValue();
            Due.law(x, (String) text[0]);
            Due.due("7: held within 1 .. 999: " + text[0], x.called(1, 0, 1), 8 * due);
        }
        HereMiss x = new HereMiss();
        x.pupil(1, 1);
        x.pupil(2, 99);
        Due.helps(x, 1, 1, 1);
        x.mend(0, 5, 9);
        Due.due("7: without a text 99 and 5 and 10", x.called(1, 2, 1), 99 + 5 + 99 + 10);
        Due.helps(x, 1, 0, 1);
        x.mend(0, 8, 0);
        Due.due("7: nobody with a GAP of 0: 1 at least", x.called(1, 0, 1), 1 + 99);
        Due.due("7: nobody with a GAP of 0, a look", x.called(1, 1, 1), 10 + 99);
        x.mend(0, 8, 1);
        Due.due("7: nobody with a GAP of 1", x.called(1, 0, 1), 1 + 99);
        x.mend(0, 8, 99);
        Due.due("7: nobody with a GAP of 99", x.called(1, 0, 1), 99 + 99);
    }

    /** Each sign between numbers below, at and above 0 and 1. */
    private static void lawTables() {
        int[] numbers = {-7, -1, 0, 1, 2, 7};
        for (int a : numbers) {
            HereMiss y = Due.room(1);
            Due.law(y, "!" + a + "+5");
            Due.due("7: !" + a, y.called(1, 0, 1), a == 0 ? 6 : 5);
            Due.law(y, a + "?8;9");
            Due.due("7: " + a + " ahead of ?", y.called(1, 0, 1), a != 0 ? 8 : 9);
            for (int b : numbers) {
                HereMiss x = Due.room(1);
                int[] due = {a != 0 || b != 0 ? 1 : 0, a != 0 && b != 0 ? 1 : 0, a < b ? 1 : 0, a == b ? 1 : 0, a > b ? 1 : 0,
                    a + b, a - b, a * b, b == 0 ? 0 : a / b, b == 0 ? 0 : a % b};
                for (int i = 0; i < due.length; i++) {
                    String text = a + "" + "|&<=>+-*/%".charAt(i) + b;
                    Due.law(x, "(" + text + ")+80");
                    Due.due("7: " + text, x.called(1, 0, 1), due[i] + 80);
                }
            }
        }
    }
}
