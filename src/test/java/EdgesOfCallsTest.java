/**
 * Promises 8 to 25 at the edges that the document names: the last value that is allowed, the first
 * that isn't, and rooms that are empty or full. What a refused call leaves: RefusedTest.
 */
public final class EdgesOfCallsTest {
    public static void main(String[] args) {
        calledByEight();
        lateToTheTenth();
        friendsAndBold();
        answersAndBestWay();
        looks();
        heads();
        sets();
        inTime();
        fire();
        days();
        order();
        registers();
        registersOfEight();
        partners();
        lessonAndWay();
        wayAndHeads();
        answersByWay();
        nobodyHasATime();
        emptyRoom();
        Due.end();
    }

    private static HereMiss eight() {
        return Due.room(8);
    }

    /** Eight of whom the last seven are away in lesson 0, for whom the first one answers as it may. */
    private static HereMiss oneForSeven(int bold) {
        HereMiss x = eight();
        for (int i = 1; i < 8; i++) {
            x.mend(i, 5, 1);
        }
        Due.helps(x, 0, bold, 255);
        return x;
    }

    private static void calledByEight() {
        HereMiss x = eight();
        Due.due("8: all eight", x.called(92, 255, 0), 255);
        Due.due("8: looks at all eight", x.called(92, 255, 1), 360 + 80);
        Due.due("8: looks at none", x.called(92, 0, 1), 360);
        for (int i = 0; i < 8; i++) {
            x.mend(i, 7, 999);
        }
        Due.due("8: MISSED all eight", x.called(1, 0, 3), 255);
        Due.due("8: MARKED none", x.called(1, 0, 0), 0);
        x = oneForSeven(7);
        Due.due("8: MARKED all, one for seven", x.called(1, 0, 0), 255);
        Due.due("8: FALSE seven", x.called(1, 0, 2), 254);
        Due.due("8: one for all", x.called(1, 0, 4), 1);
        Due.due("8: MISSED none", x.called(1, 0, 3), 0);
        Due.due("9: for the last", x.answers(1, 0, 7), 0);
        x = oneForSeven(6);
        Due.due("8: MARKED all but the seventh", x.called(1, 0, 0), 127);
        Due.due("9: for the last nobody", x.answers(1, 0, 7), -2);
        Due.due("9: by names for 1 nobody", x.answers(0, 0, 1), -2);
        Due.due("8: by a look at 1 for the last, too", x.called(1, 2, 0), 253);
        x = oneForSeven(0);
        Due.due("8: BOLD 0 answers for none", x.called(1, 0, 0), 1);
        x = eight();
        for (int i = 0; i < 7; i++) {
            x.mend(i, 6, 0);
        }
        Due.helps(x, 7, 7, 255);
        Due.due("8: the last for all", x.called(11, 0, 4), 128);
        Due.due("8: FALSE, the first seven", x.called(11, 0, 2), 127);
        for (int bad : new int[] {-1, 5}) {
            Due.due("8: what " + bad, x.called(11, 0, bad), -1);
        }
        Due.due("9: pupil 8", x.answers(11, 0, 8), -1);
        Due.due("9: pupil -1", x.answers(11, 0, -1), -1);
        Due.due("9: pupil 7", x.answers(11, 0, 7), 7);
    }

    private static void lateToTheTenth() {
        HereMiss x = Due.room(2);
        x.mend(1, 7, 999);
        Due.law(x, "998");
        Due.due("8: 999 LATE at 998", x.called(1, 0, 0), 1);
        Due.due("8: MISSED", x.called(1, 0, 3), 2);
        Due.law(x, "999");
        Due.due("8: 999 LATE at 999", x.called(1, 0, 0), 3);
        Due.due("8: by names at 0", x.called(0, 0, 0), 1);
        x.mend(1, 7, 0);
        Due.due("8: 0 LATE at 0", x.called(0, 0, 0), 3);
        x.mend(1, 7, 1);
        Due.due("8: 1 LATE at 0", x.called(0, 0, 0), 1);
        x.mend(1, 7, 0);
        x.mend(1, 5, 4);
        x.mend(1, 6, 4);
        int[] due = {1, 1, 1, 1, 3, 1, 1, 1, 1, 1};
        for (int lesson = 0; lesson < 10; lesson++) {
            Due.due("8: FROM 4 TILL 4, LESSON " + lesson, x.called(lesson * 10 + 1, 0, 0), due[lesson]);
        }
        x.mend(1, 6, 3);
        for (int lesson = 0; lesson < 10; lesson++) {
            Due.due("8: FROM 4 TILL 3, LESSON " + lesson, x.called(lesson * 10 + 1, 0, 0), 1);
        }
        x.mend(1, 5, 9);
        x.mend(1, 6, 9);
        Due.due("8: FROM 9, LESSON 8", x.called(81, 0, 0), 1);
        Due.due("8: FROM 9, LESSON 9", x.called(91, 0, 0), 3);
        x.mend(1, 5, 0);
        x.mend(1, 6, 0);
        Due.due("8: TILL 0, LESSON 0", x.called(1, 0, 0), 3);
        Due.due("8: TILL 0, LESSON 1", x.called(11, 0, 0), 1);
    }

    private static void friendsAndBold() {
        HereMiss x = Due.room(3);
        x.mend(0, 7, 500);
        Due.helps(x, 0, 7, 255);
        Due.due("8: its own bit doesn't help one who isn't THERE", x.called(1, 0, 0), 6);
        Due.due("8: nor another one's bit", x.called(1, 0, 4), 0);
        Due.helps(x, 1, 1, 4);
        Due.due("8: nor who has another's bit", x.called(1, 0, 0), 6);
        Due.helps(x, 1, 1, 1);
        Due.due("8: one who has its bit", x.called(1, 0, 0), 7);
        Due.helps(x, 2, 1, 1);
        Due.due("9: the least number of two", x.answers(1, 0, 0), 1);
        Due.helps(x, 1, 0, 1);
        Due.due("9: of those who may", x.answers(1, 0, 0), 2);
        Due.helps(x, 1, 1, 1);
        x.mend(1, 7, 1);
        Due.due("9: of those who are THERE", x.answers(1, 0, 0), 2);
        x.mend(2, 7, 1);
        Due.due("9: none is", x.answers(1, 0, 0), -2);
    }

    private static void answersAndBestWay() {
        HereMiss x = eight();
        for (int lesson : new int[] {-1, 10, Integer.MAX_VALUE, Integer.MIN_VALUE}) {
            Due.due("10: LESSON " + lesson, x.bestWay(lesson, 0), -1);
        }
        Due.due("10: what -1", x.bestWay(0, -1), -1);
        Due.due("10: what 3", x.bestWay(0, 3), -1);
        for (int i = 0; i < 8; i++) {
            x.mend(i, 7, 999);
        }
        Due.due("10: all MISSED by each WAY", x.bestWay(9, 1), 8);
        Due.due("10: the least of like ones", x.bestWay(9, 0), 0);
        Due.due("10: its tenths", x.bestWay(9, 2), 240);
        Due.law(x, "10-w");
        Due.due("10: of like ones fewest tenths", x.bestWay(9, 0), 2);
        Due.due("10: its tenths", x.bestWay(9, 2), 64);
        Due.law(x, "w=0?9;8");
        Due.due("10: of like tenths the least", x.bestWay(9, 0), 1);
        x = oneForSeven(7);
        Due.due("10: all FALSE but one", x.bestWay(0, 1), 7);
        Due.due("10: none in another LESSON", x.bestWay(1, 1), 0);
    }

    private static void looks() {
        HereMiss x = oneForSeven(1);
        Due.due("11: seven looks", x.enough(1, 0), 7);
        Due.due("11: at all but the first", x.enough(1, 1), 254);
        Due.due("11: their tenths", x.enough(1, 2), 10 + 7 * 40);
        Due.due("11: none in another LESSON", x.enough(11, 0), 0);
        Due.due("11: none of them", x.enough(11, 1), 0);
        Due.due("11: what -1", x.enough(1, -1), -1);
        Due.due("11: what 3", x.enough(1, 3), -1);
        Due.due("12: no one look is enough", x.next(1, 0, 1), 1);
        Due.due("12: the least of like ones", x.next(1, 0, 0), 0);
        Due.due("12: of the others", x.next(1, 1, 0), 1);
        Due.due("12: the last that is left", x.next(1, 127, 0), 7);
        Due.due("12: then none is FALSE if all but 0 are", x.next(1, 126, 1), 0);
        Due.due("12: that is", x.next(1, 126, 0), 7);
        Due.due("12: the first that is left", x.next(1, 254, 0), 0);
        Due.due("12: all are in LOOKS", x.next(1, 255, 0), -2);
        Due.due("12: how many of none", x.next(1, 255, 1), -2);
        Due.due("12: LOOKS 256", x.next(1, 256, 0), -1);
        Due.due("12: LOOKS -1", x.next(1, -1, 0), -1);
        Due.due("12: what 2", x.next(1, 0, 2), -1);
        Due.due("12: what -1", x.next(1, 0, -1), -1);
        HereMiss y = Due.room(7);
        Due.due("12: all seven, without the eighth bit", y.next(1, 127, 0), -2);
        Due.due("12: the seventh is left", y.next(1, 191, 0), 6);
    }

    private static void heads() {
        HereMiss x = eight();
        Due.due("13: all eight at 0", x.heads(0, 0), 8);
        Due.due("13: all eight at 9999", x.heads(9, 9999), 8);
        for (int i = 0; i < 8; i++) {
            x.mend(i, 7, i < 4 ? 999 : 0);
            x.mend(i, 6, i < 2 ? 8 : 9);
        }
        Due.due("13: at 998", x.heads(8, 998), 4);
        Due.due("13: at 999", x.heads(8, 999), 8);
        Due.due("13: behind TILL", x.heads(9, 999), 6);
        Due.due("13: LESSON 10", x.heads(10, 0), -1);
        Due.due("13: LESSON -1", x.heads(-1, 0), -1);
        Due.due("13: tenth 10000", x.heads(0, 10000), -1);
        Due.due("13: tenth -1", x.heads(0, -1), -1);
    }

    private static void sets() {
        HereMiss x = eight();
        Due.due("14: eight heads", x.absent(255, 18, 0), 1);
        Due.due("14: these", x.absent(255, 18, 1), 255);
        Due.due("14: in none of it nobody", x.absent(255, 18, 2), 0);
        Due.due("14: nine heads", x.absent(255, 19, 0), 0);
        Due.due("14: nine heads, the least", x.absent(255, 19, 1), -2);
        Due.due("14: nine heads, in none", x.absent(255, 19, 2), -2);
        Due.due("15: nine heads", x.ask(255, 19), -2);
        Due.due("14: no head", x.absent(0, 20, 0), 1);
        Due.due("14: no head, the least", x.absent(0, 20, 1), 0);
        Due.due("14: no head, in none are all", x.absent(0, 20, 2), 255);
        Due.due("15: no head, all alike", x.ask(0, 20), 0);
        for (int i = 0; i < 8; i++) {
            Due.helps(x, i, 7, 255);
        }
        int[] manySets = {0, 8, 28, 56, 70, 56, 28, 8, 1, 0};
        for (int m = 0; m < 10; m++) {
            Due.due("14: all MARKED by " + m, x.absent(255, 20 + m, 0), manySets[m]);
            Due.due("14: the least of " + m, x.absent(255, 20 + m, 1), m == 0 || m == 9 ? -2 : (1 << m) - 1);
            Due.due("14: in none of " + m, x.absent(255, 20 + m, 2), m == 0 || m == 9 ? -2 : 0);
            Due.due("15: of like ones the least, " + m, x.ask(255, 20 + m), m == 0 || m == 9 ? -2 : 0);
        }
        Due.due("14: MARKS 256", x.absent(256, 11, 0), -1);
        Due.due("14: MARKS -1", x.absent(-1, 11, 0), -1);
        Due.due("14: WAY 3", x.absent(255, 30, 0), -1);
        Due.due("14: wm -1", x.absent(255, -1, 0), -1);
        Due.due("14: what 3", x.absent(255, 11, 3), -1);
        Due.due("14: what -1", x.absent(255, 11, -1), -1);
        Due.due("15: MARKS 256", x.ask(256, 11), -1);
        Due.due("15: MARKS -1", x.ask(-1, 11), -1);
        Due.due("15: WAY 3", x.ask(255, 30), -1);
        Due.due("15: wm -1", x.ask(255, -1), -1);
        HereMiss y = Due.room(7);
        Due.due("14: a MARK of one who is none", y.absent(255, 17, 0), 0);
        Due.due("14: of seven all", y.absent(127, 17, 0), 1);
    }

    private static void inTime() {
        HereMiss x = eight();
        int[] due = {0, 10, 30, 60, 100, 150, 210, 280};
        for (int i = 0; i < 8; i++) {
            Due.due("16: " + i, x.inTime(1, i), due[i]);
            x.mend(i, 7, 999);
            Due.due("16: whatever LATE it has, " + i, x.inTime(1, i), due[i]);
            x.mend(i, 7, 0);
        }
        Due.due("16: pupil 8", x.inTime(1, 8), -1);
        Due.due("16: pupil -1", x.inTime(1, -1), -1);
        x.mend(7, 6, 4);
        Due.due("16: HERE still", x.inTime(41, 7), 280);
        Due.due("16: not HERE", x.inTime(51, 7), -2);
        Due.law(x, "499+p");
        Due.due("16: 999", x.inTime(1, 2), 999);
        Due.law(x, "500+p*0");
        Due.due("16: 1000 is held at 999", x.inTime(1, 2), 999);
        Due.law(x, "499");
        Due.due("16: 998", x.inTime(1, 2), 998);
        // Behind 999 tenths it helps others, if it is late so much, and is in time itself.
        Due.helps(x, 7, 7, 255);
        x.mend(3, 5, 9);
        Due.law(x, "400+k*0");
        Due.due("16: far behind", x.inTime(1, 7), 999);
    }

    private static void fire() {
        HereMiss x = oneForSeven(7);
        Due.due("17: seven who are not there", x.fire(0, 0), 254);
        Due.due("17: none is missed", x.fire(0, 1), 0);
        Due.due("17: in the next LESSON all are", x.fire(1, 0), 0);
        x.mend(0, 7, 999);
        Due.due("17: HERE, not MARKED", x.fire(9, 1), 1);
        for (int i = 1; i < 8; i++) {
            x.mend(i, 7, 999);
        }
        Due.due("17: none is MARKED", x.fire(9, 1), 255);
        Due.due("17: nor falsely", x.fire(9, 0), 0);
        Due.due("17: LESSON 10", x.fire(10, 0), -1);
        Due.due("17: LESSON -1", x.fire(-1, 0), -1);
        Due.due("17: what 2", x.fire(0, 2), -1);
        Due.due("17: what -1", x.fire(0, -1), -1);
        HereMiss y = Due.room(2);
        y.mend(1, 5, 1);
        Due.helps(y, 0, 1, 2);
        y.mend(0, 7, 20);
        Due.due("17: by numbers, not by names", y.fire(0, 0), 2);
        Due.due("17: by numbers 0 comes too late", y.fire(0, 1), 1);
    }

    private static void days() {
        HereMiss x = oneForSeven(7);
        x.mend(0, 9, 99);
        int[] due = {0, 7, 7};
        for (int n = 0; n <= 2; n++) {
            Due.due("18: FALSE of " + n, x.day(n, 1, 1), due[n]);
        }
        Due.due("18: n 10 by heads", x.day(10, 1, 2), 10 * 8 * 99);
        Due.due("18: n 0 by heads", x.day(0, 1, 2), 0);
        Due.due("18: n 0 tenths", x.day(0, 1, 0), 0);
        Due.due("18: n 10 tenths", x.day(10, 1, 0), 8 * 10 + 7 * 5 + 9 * 360);
        for (int what = 0; what < 3; what++) {
            Due.due("18: n 11", x.day(11, 1, what), -1);
            Due.due("18: n -1", x.day(-1, 1, what), -1);
            Due.due("18: WAY 3", x.day(1, 3, what), -1);
            Due.due("18: WAY -1", x.day(1, -1, what), -1);
        }
        Due.due("18: what 3", x.day(1, 1, 3), -1);
        Due.due("18: what -1", x.day(1, 1, -1), -1);
        Due.law(x, "9999");
        Due.due("18: the most tenths", x.day(10, 2, 0), 10 * 8 * 999);
    }

    private static void order() {
        HereMiss x = eight();
        for (int k = 0; k < 8; k++) {
            Due.due("19: by names, " + k, x.order(0, k), 7 - k);
            Due.due("19: by numbers, " + k, x.order(1, k), k);
            Due.due("19: without SEATS by numbers, " + k, x.order(2, k), k);
        }
        for (int way = 0; way < 3; way++) {
            Due.due("19: k 8", x.order(way, 8), -2);
            Due.due("19: k -1", x.order(way, -1), -1);
            Due.due("19: k far below", x.order(way, Integer.MIN_VALUE), -1);
        }
        Due.due("19: WAY 3", x.order(3, 0), -1);
        Due.due("19: WAY -1", x.order(-1, 0), -1);
        x.mend(7, 2, 15);
        x.mend(6, 2, 0);
        x.mend(3, 2, 15);
        int[] seats = {6, 3, 7, 0, 1, 2, 4, 5};
        for (int k = 0; k < 8; k++) {
            Due.due("19: SEATS 0, 15, 15, then none, " + k, x.order(2, k), seats[k]);
            x.mend(k, 0, k % 2 * 99);
        }
        int[] names = {0, 2, 4, 6, 1, 3, 5, 7};
        for (int k = 0; k < 8; k++) {
            Due.due("19: NAMES 0 and 99, of like ones by numbers, " + k, x.order(0, k), names[k]);
        }
    }

    private static void registers() {
        HereMiss x = Due.room(2);
        x.mend(1, 5, 9);
        x.row(5, 1, 60);
        for (int i = 0; i < 30; i++) {
            x.put(5, i * 2, i % 10);
            x.put(5, i * 2 + 1, i % 10 == 9 ? 3 : 1);
        }
        Due.due("20: thirty twos", x.judge(5, 1), -2);
        x.put(5, 59, 1);
        Due.due("20: the last of thirty", x.judge(5, 1), 29);
        x.put(5, 59, 3);
        x.put(5, 58, 10);
        Due.due("20: the last is LESSON 10", x.judge(5, 1), 29);
        Due.due("21: so it is for none", x.who(5, 1), 0);
        x.put(5, 0, -1);
        Due.due("20: the first is LESSON -1", x.judge(5, 1), 0);
        Due.due("22: so it is by no BOLD", x.howBold(5, 1, 0), -2);
        Due.due("23: so it is by no FRIENDS", x.forWhom(5, 1, 0, 0), 0);
        Due.due("23: nor a least", x.forWhom(5, 1, 0, 1), -2);
        x.row(5, 1, 59);
        for (int i = 0; i < 59; i++) {
            x.put(5, i, i % 2);
        }
        Due.due("20: the last of 59 lacks", x.judge(5, 1), 29);
        Due.row(x, 5, 1, 9, 3, 9);
        Due.due("20: LESSON 9 lacks its MARKS", x.judge(5, 1), 1);
        Due.due("21: it lacks for all", x.who(5, 1), 0);
        Due.row(x, 5, 1, 10);
        Due.due("20: LESSON 10 lacks its MARKS", x.judge(5, 1), 0);
        for (int marks : new int[] {0, 2, 3, 257, -1, -255}) {
            Due.row(x, 5, 1, 8, marks);
            Due.due("20: MARKS " + marks, x.judge(5, 1), 0);
        }
        Due.row(x, 5, 1, 8, 65537);
        Due.due("20: MARKS of 65537, a short", x.judge(5, 1), -2);
        HereMiss empty = new HereMiss();
        Due.row(empty, 0, 1, 9, 0, 9);
        Due.due("20: MARKS of nobody lack", empty.judge(0, 2), 1);
        Due.row(empty, 0, 1, 9, 0);
        Due.due("20: MARKS of nobody", empty.judge(0, 2), -2);
        Due.due("21: of nobody none", empty.who(0, 2), 0);
        Due.row(empty, 0, 1, 9, 1);
        Due.due("20: of nobody other MARKS", empty.judge(0, 2), 0);
        Due.due("22: pupil 0 of none", empty.howBold(0, 2, 0), -1);
        Due.due("23: pupil 0 of none", empty.forWhom(0, 2, 0, 0), -1);
    }

    private static void registersOfEight() {
        HereMiss x = oneForSeven(7);
        Due.row(x, 0, 1, 0, 255);
        Due.due("20: MARKS of all eight", x.judge(0, 1), -2);
        Due.due("21: all but the one for seven", x.who(0, 1), 254);
        Due.due("22: the most BOLD", x.howBold(0, 1, 0), 7);
        Due.due("22: of another one the least", x.howBold(0, 1, 7), 0);
        Due.due("22: of none", x.howBold(0, 1, 8), -1);
        Due.due("23: all seven, itself or not", x.forWhom(0, 1, 0, 0), 2);
        Due.due("23: the least", x.forWhom(0, 1, 0, 1), 254);
        Due.due("23: of another one all", x.forWhom(0, 1, 7, 0), 256);
        Due.due("23: of another one none at least", x.forWhom(0, 1, 7, 1), 0);
        Due.due("23: of none", x.forWhom(0, 1, 8, 0), -1);
        Due.row(x, 0, 1, 0, 127);
        Due.due("22: by names one less would be others", x.howBold(0, 0, 0), -2);
        Due.due("22: one less", x.howBold(0, 1, 0), 6);
        Due.due("23: six, itself or not", x.forWhom(0, 1, 0, 0), 2);
        Due.row(x, 0, 1);
        Due.due("21: of an empty register all eight", x.who(0, 1), 255);
        Due.due("22: of an empty register", x.howBold(0, 1, 0), 0);
        Due.due("23: of an empty register", x.forWhom(0, 1, 0, 0), 256);
        Due.due("4: BOLD stays", x.of(0, 3), 7);
        Due.due("4: FRIENDS stay", x.of(0, 4), 255);
        Due.due("8: in calls, too", x.called(1, 0, 0), 255);
    }

    private static void partners() {
        HereMiss x = eight();
        Due.due("24: nobody", x.partners(2, 0), -2);
        Due.due("24: nobody, how often", x.partners(2, 1), 0);
        x.mend(6, 6, 0);
        x.mend(6, 5, 1);
        Due.helps(x, 7, 1, 64);
        Due.due("24: the last two", x.partners(2, 0), 67);
        Due.due("24: in all ten", x.partners(2, 1), 10);
        x.mend(1, 6, 0);
        x.mend(1, 5, 1);
        Due.helps(x, 0, 1, 2);
        Due.due("24: of like ones the first", x.partners(2, 0), 1);
        x.mend(1, 5, 0);
        Due.due("24: nine are fewer", x.partners(2, 0), 67);
        x.mend(0, 6, 0);
        x.mend(0, 5, 1);
        Due.helps(x, 3, 1, 1);
        Due.due("24: for the first of all, too", x.partners(2, 0), 3);
        Due.due("24: in all ten", x.partners(2, 1), 10);
        Due.due("24: WAY 3", x.partners(3, 0), -1);
        Due.due("24: WAY -1", x.partners(-1, 0), -1);
        Due.due("24: what 2", x.partners(0, 2), -1);
        Due.due("24: what -1", x.partners(0, -1), -1);
    }

    /** Three who come in LESSON l alone, by the WAYS in orders of their own, with tenths that tell the WAY. */
    private static HereMiss onlyIn(int lesson) {
        HereMiss x = Due.room(3);
        for (int i = 0; i < 3; i++) {
            x.mend(i, 5, lesson);
            x.mend(i, 6, lesson);
        }
        x.mend(1, 2, 0);
        Due.law(x, "p+w*10+1");
        return x;
    }

    /** By names 2 1 0, by numbers 0 1 2, by SEATS 1 0 2; in any other LESSON nobody is there. */
    private static void lessonAndWay() {
        int[][] due = {{0 + 1 + 2 + 3, 1 + 2, 1, 0}, {30 + 1 + 2 + 3, 0, 11, 11 + 12}, {60 + 1 + 2 + 3, 21, 0, 21 + 22}};
        for (int lesson = 0; lesson < 10; lesson++) {
            HereMiss x = onlyIn(lesson);
            for (int other = 0; other < 10; other++) {
                boolean so = other == lesson;
                for (int way = 0; way < 3; way++) {
                    int tw = other * 10 + way;
                    Due.due("8: MARKED by " + tw, x.called(tw, 0, 0), so ? 7 : 0);
                    Due.due("8: tenths by " + tw, x.called(tw, 0, 1), due[way][0]);
                    Due.due("9: answers by " + tw, x.answers(tw, 0, 2), so ? 2 : -2);
                    Due.due("16: in time by " + tw, x.inTime(tw, other % 3), so ? due[way][1 + other % 3] : -2);
                    Due.due("26: MARKED by " + tw, x.call(tw, 0), so ? 7 : 0);
                }
                Due.due("13: heads in " + other, x.heads(other, 0), so ? 3 : 0);
                Due.due("10: its tenths in " + other, x.bestWay(other, 2), 6);
            }
            Due.due("18: tenths of the day up to it", x.day(lesson + 1, 1, 0), 36 * (lesson + 1));
            Due.due("28: tenths of thirty", x.led(1), 10 * (6 + 36 + 66));
            Due.due("28: MARKS of thirty", x.led(2), 9);
        }
        for (int tw = 0; tw < 100; tw++) {
            HereMiss x = onlyIn(0);
            boolean is = tw % 10 < 3;
            Due.due("8: tw " + tw, x.called(tw, 0, 4), is ? 0 : -1);
            Due.due("9: tw " + tw, x.answers(tw, 0, 0), !is ? -1 : tw < 3 ? 0 : -2);
            Due.due("11: tw " + tw, x.enough(tw, 0), is ? 0 : -1);
            Due.due("11: tenths by tw " + tw, x.enough(tw, 2), is ? due[tw % 10][0] : -1);
            Due.due("12: tw " + tw, x.next(tw, 5, 0), is ? 1 : -1);
            Due.due("16: tw " + tw, x.inTime(tw, 0), !is ? -1 : tw < 3 ? due[tw % 10][1] : -2);
            Due.due("26: tw " + tw, x.call(tw, 0), !is ? -1 : tw < 3 ? 7 : 0);
        }
        for (int lesson = 0; lesson < 10; lesson++) {
            HereMiss x = onlyIn(lesson);
            x.mend(0, 5, 0);
            x.mend(0, 6, 9);
            x.mend(1, 5, lesson);
            x.mend(1, 6, 9);
            Due.helps(x, 1, 1, 4);
            for (int later = lesson; later < 10; later++) {
                Due.due("11: 1 answers for 2 behind LESSON " + lesson, x.enough(later * 10 + 1, 1), later == lesson ? 0 : 4);
                Due.due("12: 1 answers for 2 behind LESSON " + lesson, x.next(later * 10 + 1, 0, 0), later == lesson ? 0 : 2);
                Due.due("17: 1 answers for 2 behind LESSON " + lesson, x.fire(later, 0), later == lesson ? 0 : 4);
            }
        }
    }

    /** One answers for one: by names 1 is the first, by numbers 0, by SEATS 2. */
    private static void wayAndHeads() {
        HereMiss x = Due.room(3);
        x.mend(1, 0, 0);
        x.mend(2, 2, 0);
        for (int i = 0; i < 3; i++) {
            Due.helps(x, i, 1, 255);
        }
        int[] first = {1, 0, 2};
        for (int wm = 0; wm < 30; wm++) {
            int way = wm / 10;
            int m = wm % 10;
            int[] all = {0, 0, 3, 1, 0, 0, 0, 0, 0, 0};
            Due.due("14: all MARKED, wm " + wm, x.absent(7, wm, 0), all[m]);
            Due.due("15: all MARKED, wm " + wm, x.ask(7, wm), m == 2 || m == 3 ? 0 : -2);
            Due.due("14: nobody MARKED, wm " + wm, x.absent(0, wm, 0), m == 0 ? 1 : 0);
            Due.due("15: nobody MARKED, wm " + wm, x.ask(0, wm), m == 0 ? 0 : -2);
            // Without the first one by the WAY: whoever is alone answers for it and itself.
            int without = 7 & ~(1 << (way == 0 ? 0 : way == 1 ? 2 : 1));
            Due.due("14: without the last one, wm " + wm, x.absent(without, wm, 0), m == 1 ? 2 : 0);
            Due.due("14: the least, wm " + wm, x.absent(without, wm, 1), m == 1 ? without & -without : -2);
            Due.due("14: in none, wm " + wm, x.absent(without, wm, 2), m == 1 ? 7 & ~without : -2);
            Due.due("15: first of all, wm " + wm, x.ask(without, wm), m == 1 ? without % 2 == 1 ? 0 : 1 : -2);
            Due.due("19: the first, wm " + wm, x.order(way, 0), first[way]);
        }
    }

    /** 0 answers for one of the other three, which come in LESSON 0 alone: for the first by the WAY. */
    private static void answersByWay() {
        for (int tw = 0; tw < 100; tw++) {
            HereMiss x = Due.room(4);
            for (int i = 1; i < 4; i++) {
                x.mend(i, 6, 0);
            }
            x.mend(2, 2, 1);
            Due.helps(x, 0, 1, 255);
            int way = tw % 10;
            int first = way == 0 ? 3 : way == 1 ? 1 : 2;
            for (int i = 0; i < 4; i++) {
                int due = tw < 10 || i == 0 ? i : i == first ? 0 : -2;
                Due.due("9: tw " + tw + ", pupil " + i, x.answers(tw, 0, i), way > 2 ? -1 : due);
            }
            Due.due("9: tw " + tw + ", not if she LOOKS", x.answers(tw, 15, first), way > 2 ? -1 : tw < 10 ? first : -2);
        }
    }

    /** What a name takes for nobody, wherever it comes. */
    private static void nobodyHasATime() {
        HereMiss x = eight();
        int all = 360;
        for (int one = 0; one < 8; one++) {
            x.mend(one, 5, 9);
            int without = all - 10 * (one + 1) + 30;
            for (int way = 0; way < 3; way++) {
                Due.due("8: nobody for " + one + " by WAY " + way, x.called(way, 0, 1), without);
                Due.due("8: nobody for " + one + ", and a look at it", x.called(way, 1 << one, 1), without + 10);
                Due.due("8: nobody for " + one + ", and looks at the others", x.called(way, 255 - (1 << one), 1), without + 70);
            }
            x.mend(one, 5, 0);
        }
        for (int i = 0; i < 8; i++) {
            x.mend(i, 5, 1);
            Due.due("8: nobody for the first " + (i + 1), x.called(0, 0, 1), all - 5 * (i + 1) * (i + 2) + 30 * (i + 1));
        }
    }

    private static void emptyRoom() {
        HereMiss x = new HereMiss();
        for (int way = 0; way < 3; way++) {
            Due.due("14: the set of none", x.absent(0, way * 10, 0), 1);
            Due.due("14: the least is none", x.absent(0, way * 10, 1), 0);
            Due.due("14: in none is none", x.absent(0, way * 10, 2), 0);
            Due.due("14: one head", x.absent(0, way * 10 + 1, 0), 0);
            Due.due("14: one head, the least", x.absent(0, way * 10 + 1, 1), -2);
            Due.due("15: there is none to look at", x.ask(0, way * 10), -2);
            Due.due("12: there is none to look at", x.next(way, 0, 0), -2);
            Due.due("12: how many are FALSE by no look", x.next(way, 0, 1), -2);
            Due.due("11: no looks", x.enough(way, 0), 0);
            Due.due("11: at none", x.enough(way, 1), 0);
            Due.due("9: pupil 0 of none", x.answers(way, 0, 0), -1);
            Due.due("16: pupil 0 of none", x.inTime(way, 0), -1);
        }
        Due.due("10: the least WAY", x.bestWay(9, 0), 0);
        Due.due("13: no heads", x.heads(9, 9999), 0);
        Due.due("17: nobody MARKED", x.fire(9, 0), 0);
        Due.due("17: nobody HERE", x.fire(9, 1), 0);
    }
}
