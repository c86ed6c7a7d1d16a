/** Promises 18 to 25: days, orders, registers, partners, mornings by draws. */
public final class DaysTest {
    public static void main(String[] args) {
        day();
        order();
        judge();
        who();
        howBold();
        forWhom();
        partners();
        drawn();
        wrongInputs();
        wrongShelves();
        Due.end();
    }

    private static void day() {
        HereMiss x = Due.room(3);
        x.mend(2, 5, 2);
        x.mend(2, 6, 4);
        x.mend(1, 6, 8);
        Due.helps(x, 0, 1, 6);
        // Lessons 0 and 1: 2 is answered for; 2 to 4: all are there; 5 to 8: 2; 9: 1, but for 2 nobody.
        Due.due("18: no lesson", x.day(0, 1, 0), 0);
        Due.due("18: one lesson", x.day(1, 1, 0), 45);
        Due.due("18: two", x.day(2, 1, 0), 90);
        Due.due("18: three", x.day(3, 1, 0), 150);
        Due.due("18: ten", x.day(10, 1, 0), 6 * 45 + 3 * 60 + 55);
        Due.due("18: FALSE", x.day(10, 1, 1), 7);
        Due.due("18: FALSE of two", x.day(2, 1, 1), 2);
        Due.due("18: by names 2 comes first", x.day(10, 0, 0), 6 * 45 + 3 * 60 + 55);
        Due.due("18: by heads", x.day(10, 1, 2), 120);
        x.mend(0, 9, 99);
        Due.due("18: by heads of 99", x.day(2, 0, 2), 594);
        x.mend(0, 9, 0);
        Due.due("18: by heads of 0", x.day(2, 0, 2), 0);
        Due.law(x, "w*100+100");
        Due.due("18: by way", x.day(2, 2, 0), 6 * 300);
        Due.due("18: in thought alone", x.led(0), 0);
    }

    private static void order() {
        HereMiss x = new HereMiss();
        int[] names = {50, 10, 50, 99, 0, 10};
        int[] seats = {-1, 15, 3, 3, -1, 0};
        for (int i = 0; i < names.length; i++) {
            x.pupil(names[i], 20);
            x.mend(i, 2, seats[i]);
        }
        int[][] due = {{4, 1, 5, 0, 2, 3}, {0, 1, 2, 3, 4, 5}, {5, 2, 3, 1, 0, 4}};
        for (int way = 0; way < 3; way++) {
            for (int k = 0; k < names.length; k++) {
                Due.due("19: order(" + way + ", " + k + ")", x.order(way, k), due[way][k]);
            }
            Due.due("19: not as many", x.order(way, names.length), -2);
            Due.due("19: far more", x.order(way, Integer.MAX_VALUE), -2);
        }
        x.mend(3, 0, 0);
        Due.due("19: of like ones by numbers", x.order(0, 0), 3);
        Due.due("19: the other one then", x.order(0, 1), 4);
    }

    /** Three pupils; 0 answers for 1 and 2, of whom 1 comes from lesson 3 on and 2 till lesson 5. */
    private static HereMiss registerRoom() {
        HereMiss x = Due.room(3);
        x.mend(1, 5, 3);
        x.mend(2, 6, 5);
        Due.helps(x, 0, 1, 6);
        return x;
    }

    private static void judge() {
        HereMiss x = registerRoom();
        x.row(1, 1, 0);
        Due.due("20: an empty register", x.judge(1, 1), -2);
        Due.row(x, 1, 1, 0, 7, 3, 7, 9, 7);
        Due.due("20: all so", x.judge(1, 1), -2);
        Due.helps(x, 0, 0, 6);
        Due.due("20: the first two", x.judge(1, 1), 0);
        Due.row(x, 1, 1, 4, 7, 3, 7, 9, 7, 0, 7);
        Due.due("20: the third two", x.judge(1, 1), 2);
        Due.row(x, 1, 1, 4, 7, 10, 7);
        Due.due("20: not a lesson", x.judge(1, 1), 1);
        Due.row(x, 1, 1, -1, 7, 3, 7);
        Due.due("20: not a lesson, either", x.judge(1, 1), 0);
        Due.row(x, 1, 1, 4, 7, 3, 7, 4);
        Due.due("20: the last one lacks", x.judge(1, 1), 2);
        Due.row(x, 1, 1, 4);
        Due.due("20: one alone", x.judge(1, 1), 0);
        Due.row(x, 1, 1, 4, 7 + 256);
        Due.due("20: marks of more", x.judge(1, 1), 0);
        Due.row(x, 1, 1, 4, -1);
        Due.due("20: marks below 0", x.judge(1, 1), 0);
        Due.row(x, 1, 1, 4 + 65536, 7);
        Due.due("20: a short", x.judge(1, 1), -2);
        x.mend(1, 7, 15);
        Due.row(x, 1, 1, 4, 5);
        Due.due("20: by numbers LATE", x.judge(1, 1), -2);
        Due.due("20: by names in time", x.judge(1, 0), 0);
    }

    private static void who() {
        HereMiss x = registerRoom();
        Due.row(x, 5, 1, 0, 5, 4, 7);
        Due.due("21: not so as it is", x.judge(5, 1), 0);
        Due.due("21: if 0 were not", x.who(5, 1), 1);
        Due.row(x, 5, 1, 0, 7);
        Due.due("21: any but 0", x.who(5, 1), 6);
        Due.helps(x, 2, 1, 2);
        Due.due("21: each alone", x.who(5, 1), 7);
        Due.row(x, 5, 1, 0, 5);
        Due.due("21: none alone", x.who(5, 1), 0);
        Due.row(x, 5, 1);
        Due.due("21: an empty register: all", x.who(5, 1), 7);
        Due.row(x, 5, 1, 0, 7, 1);
        Due.due("21: a register that lacks: none", x.who(5, 1), 0);
        Due.due("21: BOLD stays", x.of(0, 3), 1);
        Due.due("21: BOLD stays in calls", x.called(1, 0, 0), 7);
    }

    private static void howBold() {
        HereMiss x = Due.room(4);
        for (int i = 1; i < 4; i++) {
            x.mend(i, 5, 1);
        }
        Due.helps(x, 0, 7, 14);
        Due.row(x, 0, 1, 0, 15);
        Due.due("22: three", x.howBold(0, 1, 0), 3);
        Due.row(x, 0, 1, 0, 7);
        Due.due("22: two", x.howBold(0, 1, 0), 2);
        Due.row(x, 0, 1, 0, 1);
        Due.due("22: not at all", x.howBold(0, 1, 0), 0);
        Due.row(x, 0, 1, 0, 9);
        Due.due("22: by no number", x.howBold(0, 1, 0), -2);
        Due.due("22: by names", x.howBold(0, 0, 0), 1);
        Due.row(x, 0, 1, 0, 7, 1, 15);
        Due.due("22: both lessons", x.howBold(0, 1, 0), 2);
        Due.row(x, 0, 1, 0, 7, 0, 3);
        Due.due("22: one is not so", x.howBold(0, 1, 0), -2);
        Due.row(x, 0, 1);
        Due.due("22: an empty register", x.howBold(0, 1, 3), 0);
        Due.due("22: BOLD stays", x.of(0, 3), 7);
        HereMiss y = new HereMiss();
        for (int i = 0; i < 8; i++) {
            y.pupil(i, 1);
            y.mend(i, 5, i == 7 ? 0 : 1);
        }
        y.mend(7, 4, 255);
        Due.row(y, 0, 1, 0, 255);
        Due.due("22: seven", y.howBold(0, 1, 7), 7);
    }

    private static void forWhom() {
        HereMiss x = Due.room(3);
        x.mend(1, 5, 1);
        x.mend(2, 5, 1);
        x.mend(0, 3, 1);
        x.mend(0, 4, 1);
        Due.row(x, 0, 1, 0, 3);
        Due.due("23: all with bit 1", x.forWhom(0, 1, 0, 0), 128);
        Due.due("23: the least", x.forWhom(0, 1, 0, 1), 2);
        Due.row(x, 0, 1, 0, 5);
        Due.due("23: with bit 2, without bit 1", x.forWhom(0, 1, 0, 0), 64);
        Due.due("23: the least", x.forWhom(0, 1, 0, 1), 4);
        Due.row(x, 0, 1, 0, 1);
        Due.due("23: with neither", x.forWhom(0, 1, 0, 0), 64);
        Due.due("23: the least is none", x.forWhom(0, 1, 0, 1), 0);
        Due.row(x, 0, 1, 0, 7);
        Due.due("23: no set", x.forWhom(0, 1, 0, 0), 0);
        Due.due("23: no least", x.forWhom(0, 1, 0, 1), -2);
        x.mend(0, 3, 2);
        Due.due("23: bolder", x.forWhom(0, 1, 0, 1), 6);
        Due.row(x, 0, 1);
        Due.due("23: an empty register: all", x.forWhom(0, 1, 2, 0), 256);
        Due.row(x, 0, 1, 4);
        Due.due("23: a register that lacks: none", x.forWhom(0, 1, 2, 0), 0);
        Due.due("23: FRIENDS stay", x.of(0, 4), 1);
    }

    private static void partners() {
        HereMiss x = Due.room(4);
        Due.due("24: nobody", x.partners(1, 0), -2);
        Due.due("24: how often nobody", x.partners(1, 1), 0);
        x.mend(1, 5, 5);
        x.mend(3, 6, 4);
        Due.helps(x, 2, 1, 10);
        Due.due("24: five times each, the first", x.partners(1, 0), 12);
        Due.due("24: five times", x.partners(1, 1), 5);
        x.mend(3, 6, 3);
        Due.due("24: five times each still, 2 is bold for one alone", x.partners(1, 1), 5);
        Due.helps(x, 2, 2, 10);
        Due.due("24: six times", x.partners(1, 0), 23);
        Due.due("24: how often", x.partners(1, 1), 6);
        // Either for the other one: 1 for 2 in lessons 5 to 9, when 2 is away.
        x.mend(2, 6, 4);
        Due.helps(x, 1, 1, 4);
        Due.due("24: either for the other one", x.partners(1, 0), 12);
        Due.due("24: ten times", x.partners(1, 1), 10);
        x.mend(0, 6, 0);
        Due.helps(x, 3, 7, 255);
        Due.due("24: by names 3 comes first", x.partners(0, 0), 12);
    }

    private static void drawn() {
        HereMiss x = Due.room(3);
        Due.helps(x, 0, 1, 6);
        Due.helps(x, 1, 7, 5);
        x.mend(2, 5, 9);
        x.mend(2, 7, 999);
        for (int ill = 0; ill <= 12; ill++) {
            // By hand: who is there from the beginning, morning by morning.
            int z = -77;
            int wrong = 0;
            int tenths = 0;
            for (int n = 1; n <= 50; n++) {
                int[] there = new int[3];
                for (int i = 0; i < 3; i++) {
                    z = z * 1103515245 + 12345;
                    there[i] = (z >>> 8) % 12 >= ill ? 1 : 0;
                }
                int set = there[0] + 2 * there[1] + 4 * there[2];
                // none; 0 for 1; 1 for 0 and 2; 0 for 2; 2 alone; 0 for 1; 1 for 0; all.
                wrong += new int[] {0, 1, 2, 1, 0, 1, 1, 0}[set];
                tenths += new int[] {90, 10 + 15 + 30, 25 + 20 + 25, 10 + 20 + 15, 60 + 30, 10 + 15 + 30, 25 + 20 + 30,
                    60}[set];
                if (n == 1 || n == 2 || n == 50) {
                    String call = "25: drawn(-77, " + n + "1, " + ill + ")";
                    Due.due(call + ", FALSE", x.drawn(-77, n * 10 + 1, ill, 0), wrong);
                    Due.due(call + ", tenths", x.drawn(-77, n * 10 + 1, ill, 1), tenths);
                }
            }
        }
        Due.due("25: all there", x.drawn(1, 500, 0, 1), 3000);
        Due.due("25: nobody there", x.drawn(1, 502, 12, 1), 4500);
        Due.due("25: in thought alone", x.led(0), 0);
    }

    private static void wrongInputs() {
        HereMiss x = Due.room(2);
        x.row(0, 1, 0);
        int[] ways = {-1, 3, Integer.MIN_VALUE, Integer.MAX_VALUE};
        for (int way : ways) {
            Due.due("18: way " + way, x.day(1, way, 0), -1);
            Due.due("19: way " + way, x.order(way, 0), -1);
            Due.due("20: way " + way, x.judge(0, way), -1);
            Due.due("21: way " + way, x.who(0, way), -1);
            Due.due("22: way " + way, x.howBold(0, way, 0), -1);
            Due.due("23: way " + way, x.forWhom(0, way, 0, 0), -1);
            Due.due("24: way " + way, x.partners(way, 0), -1);
            Due.due("18: what " + way, x.day(1, 0, way), -1);
            Due.due("22: pupil " + way, x.howBold(0, 0, way), -1);
            Due.due("23: pupil " + way, x.forWhom(0, 0, way, 0), -1);
            Due.due("23: what " + way, x.forWhom(0, 0, 0, way), -1);
            Due.due("24: what " + way, x.partners(0, way), -1);
            Due.due("25: what " + way, x.drawn(0, 10, 0, way), -1);
        }
        Due.due("18: n -1", x.day(-1, 0, 0), -1);
        Due.due("18: n 11", x.day(11, 0, 2), -1);
        Due.due("19: k -1", x.order(0, -1), -1);
        Due.due("19: bad goes before NOT", x.order(3, 9), -1);
        Due.due("22: pupil 2", x.howBold(0, 0, 2), -1);
        Due.due("23: pupil 2", x.forWhom(0, 0, 2, 0), -1);
        Due.due("23: what 2", x.forWhom(0, 0, 0, 2), -1);
        Due.due("24: what 2", x.partners(0, 2), -1);
        Due.due("25: what 2", x.drawn(0, 10, 0, 2), -1);
        int[] morningsAndWays = {-10, 0, 2, 9, 13, 503, 510, Integer.MIN_VALUE, Integer.MAX_VALUE};
        for (int nw : morningsAndWays) {
            Due.due("25: nw " + nw, x.drawn(0, nw, 0, 0), -1);
        }
        int[] ills = {-1, 13, Integer.MIN_VALUE, Integer.MAX_VALUE};
        for (int ill : ills) {
            Due.due("25: ill " + ill, x.drawn(0, 10, ill, 0), -1);
        }
    }

    private static void registerCalls(HereMiss x, String of, int shelf, int way, int pupil, int due) {
        Due.due("22: " + of, x.howBold(shelf, way, pupil), due);
        Due.due("23: " + of, x.forWhom(shelf, way, pupil, 0), due);
        Due.due("23: " + of + ", least", x.forWhom(shelf, way, pupil, 1), due);
        if (pupil == 0) {
            Due.due("20: " + of, x.judge(shelf, way), due);
            Due.due("21: " + of, x.who(shelf, way), due);
        }
    }

    private static void wrongShelves() {
        HereMiss x = Due.room(1);
        registerCalls(x, "shelf -1", -1, 0, 0, -1);
        registerCalls(x, "shelf 6", 6, 0, 0, -1);
        registerCalls(x, "nothing is there", 0, 0, 0, -11);
        registerCalls(x, "bad goes before -11", 0, 3, 0, -1);
        registerCalls(x, "a pupil that is none goes before -11", 0, 0, 1, -1);
        Due.due("23: a bad what goes before -11", x.forWhom(0, 0, 0, 2), -1);
        x.body(0);
        x.keep(0, 0);
        registerCalls(x, "a voice", 0, 0, 0, -12);
        for (int sort = 0; sort < 5; sort++) {
            if (sort != 1) {
                x.row(0, sort, 2);
                registerCalls(x, "sort " + sort, 0, 0, 0, -12);
            }
        }
        registerCalls(x, "bad goes before -12", 0, 0, 1, -1);
        x.keep(0, -1);
        registerCalls(x, "nothing is there any more", 0, 0, 0, -11);
    }
}
