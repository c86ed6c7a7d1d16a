/** Promises 8 to 17: calls in thought, worked out by hand. */
public final class CallsTest {
    public static void main(String[] args) {
        called();
        calledInTime();
        calledBold();
        answers();
        bestWay();
        enough();
        next();
        lessonsAndWays();
        heads();
        absent();
        ask();
        inTime();
        fire();
        wrongInputs();
        Due.end();
    }

    private static void all(HereMiss x, String of, int tw, int looks, int... due) {
        String[] what = {"MARKED", "tenths", "FALSE", "MISSED", "answered for others"};
        for (int i = 0; i < due.length; i++) {
            Due.due("8: " + of + ", " + what[i], x.called(tw, looks, i), due[i]);
        }
    }

    private static void called() {
        HereMiss x = Due.room(3);
        all(x, "all there", 1, 0, 7, 60, 0, 0, 0);
        all(x, "a look takes 10 more", 1, 5, 7, 80, 0, 0, 0);
        all(x, "looks at who is none", 1, 0xf8, 7, 60, 0, 0, 0);
        x.mend(1, 6, 3);
        all(x, "TILL, too", 31, 0, 7, 60, 0, 0, 0);
        all(x, "behind TILL, by nobody", 41, 0, 5, 70, 0, 0, 0);
        x.mend(1, 6, 9);
        x.mend(1, 5, 3);
        all(x, "FROM, too", 31, 0, 7, 60, 0, 0, 0);
        all(x, "ahead of FROM", 21, 0, 5, 70, 0, 0, 0);
        Due.helps(x, 2, 1, 2);
        all(x, "answered for", 21, 0, 7, 75, 2, 0, 4);
        all(x, "not if she looks: GAP and 10", 21, 2, 5, 80, 0, 0, 0);
        all(x, "a look at the other one", 21, 4, 7, 85, 2, 0, 4);
        x.mend(0, 8, 0);
        Due.helps(x, 2, 0, 2);
        all(x, "1 at least", 21, 0, 5, 41, 0, 0, 0);
        Due.helps(x, 2, 7, 5);
        all(x, "no friend", 21, 0, 5, 41, 0, 0, 0);
    }

    private static void calledInTime() {
        HereMiss x = Due.room(3);
        x.mend(1, 7, 10);
        all(x, "LATE to the tenth, in time", 1, 0, 7, 60, 0, 0, 0);
        x.mend(1, 7, 11);
        all(x, "LATE by one tenth", 1, 0, 5, 70, 0, 2, 0);
        Due.helps(x, 0, 1, 6);
        all(x, "LATE, answered for: not MISSED", 1, 0, 7, 55, 2, 0, 1);
        x.mend(0, 7, 1);
        all(x, "who helps must be there itself", 1, 0, 6, 80, 0, 1, 0);
        x.mend(0, 7, 35);
        all(x, "nobody is there yet", 1, 0, 6, 80, 0, 1, 0);
        Due.helps(x, 1, 1, 1);
        x.mend(1, 7, 0);
        all(x, "a later name helps", 1, 0, 7, 75, 1, 0, 2);
        x.mend(2, 7, 999);
        Due.helps(x, 1, 1, 5);
        Due.helps(x, 0, 0, 4);
        all(x, "bold for one alone", 1, 0, 3, 75, 1, 4, 2);
        Due.helps(x, 0, 1, 4);
        all(x, "one that came by now helps", 1, 0, 7, 25 + 20 + 15, 5, 0, 3);
        x.mend(0, 7, 45);
        all(x, "it came at that tenth", 1, 0, 7, 60, 5, 0, 3);
        x.mend(0, 7, 46);
        all(x, "it came behind that tenth", 1, 0, 3, 75, 1, 4, 2);
    }

    private static void calledBold() {
        HereMiss x = Due.room(6);
        for (int i = 2; i < 6; i++) {
            x.mend(i, 5, 5);
        }
        Due.helps(x, 0, 2, 0xff);
        Due.helps(x, 1, 1, 0xff);
        all(x, "two, then one more", 1, 0, 31, 10 + 20 + 15 + 15 + 25 + 30, 28, 0, 3);
        all(x, "by names the last come first", 0, 0, 59, 15 + 15 + 25 + 30 + 20 + 10, 56, 0, 3);
        all(x, "a look keeps one bold", 1, 4, 59, 10 + 20 + 40 + 15 + 15 + 25, 56, 0, 3);
        x.mend(5, 2, 0);
        x.mend(3, 2, 0);
        x.mend(0, 2, 15);
        all(x, "by seats 3, 5, 0, then none", 2, 0, 47, 15 + 15 + 10 + 20 + 25 + 30, 44, 0, 3);
        Due.helps(x, 0, 2, 0xfb);
        all(x, "the least number of those who may", 1, 0, 31, 10 + 20 + 25 + 15 + 15 + 30, 28, 0, 3);
    }

    private static void answers() {
        HereMiss x = Due.room(4);
        x.mend(2, 7, 999);
        x.mend(3, 5, 5);
        Due.helps(x, 0, 0, 255);
        Due.helps(x, 1, 1, 12);
        Due.due("9: itself", x.answers(1, 0, 0), 0);
        Due.due("9: another one", x.answers(1, 0, 2), 1);
        Due.due("9: nobody", x.answers(1, 0, 3), -2);
        Due.due("9: by the look", x.answers(1, 4, 2), -2);
        Due.due("9: then for the next", x.answers(1, 4, 3), 1);
        Due.due("9: by names 3 comes first", x.answers(0, 0, 3), 1);
        Due.due("9: by names 2 has nobody", x.answers(0, 0, 2), -2);
        Due.due("9: a look at who is there", x.answers(1, 1, 0), 0);
        Due.due("9: in another lesson", x.answers(51, 0, 3), 3);
    }

    private static void bestWay() {
        HereMiss x = Due.room(2);
        Due.due("10: of like ones the least", x.bestWay(0, 0), 0);
        Due.due("10: none wrong", x.bestWay(0, 1), 0);
        Due.due("10: tenths", x.bestWay(0, 2), 30);
        x.mend(0, 7, 15);
        Due.due("10: by names it is in time", x.bestWay(0, 0), 0);
        x.mend(0, 7, 0);
        x.mend(1, 7, 5);
        Due.due("10: fewest MISSED", x.bestWay(0, 0), 1);
        Due.due("10: how many", x.bestWay(0, 1), 0);
        Due.due("10: by numbers", x.bestWay(0, 2), 30);
        Due.helps(x, 0, 1, 2);
        Due.due("10: FALSE counts, too", x.bestWay(0, 0), 1);
        x.mend(0, 0, 1);
        x.mend(1, 2, 3);
        x.mend(0, 2, 4);
        Due.due("10: by names again", x.bestWay(0, 0), 0);
        x.mend(0, 0, 90);
        x.mend(0, 2, 2);
        Due.law(x, "w=1?99;w=2?s;s+1");
        Due.due("10: fewest tenths", x.bestWay(0, 0), 2);
        Due.due("10: its tenths", x.bestWay(0, 2), 30);
        x.mend(1, 7, 500);
        Due.law(x, "30-w");
        Due.due("10: one FALSE each", x.bestWay(0, 1), 1);
        Due.due("10: of one FALSE each the fewest tenths", x.bestWay(0, 0), 2);
        Due.due("10: fewest tenths", x.bestWay(0, 2), 56);
        Due.helps(x, 0, 0, 2);
        Due.due("10: one MISSED each", x.bestWay(0, 1), 1);
        x.mend(1, 5, 4);
        Due.due("10: one who isn't HERE is not MISSED", x.bestWay(0, 1), 0);
    }

    private static void enough() {
        HereMiss x = Due.room(4);
        Due.due("11: none", x.enough(1, 0), 0);
        Due.due("11: tenths of it", x.enough(1, 2), 100);
        for (int i = 1; i < 4; i++) {
            x.mend(i, 5, 1);
        }
        Due.helps(x, 0, 1, 14);
        // A look at 1 lets 0 answer for 2, and so on: all three it must be.
        Due.due("11: all three", x.enough(1, 0), 3);
        Due.due("11: these", x.enough(1, 1), 14);
        Due.due("11: tenths", x.enough(1, 2), 10 + 3 * 40);
        Due.helps(x, 0, 3, 4);
        Due.due("11: one", x.enough(1, 1), 4);
        Due.due("11: not in the lesson where all are there", x.enough(11, 1), 0);
        // Whichever of 1 and 2 she looks at, it takes so long that 3 comes by itself.
        x = Due.room(4);
        x.mend(1, 5, 1);
        x.mend(2, 5, 1);
        x.mend(3, 7, 75);
        Due.helps(x, 0, 1, 8);
        Due.due("11: by numbers 0 does it", x.called(1, 0, 2), 8);
        Due.due("11: one look is enough", x.enough(1, 0), 1);
        Due.due("11: the least of like ones", x.enough(1, 1), 1);
        Due.due("11: its tenths", x.enough(1, 2), 20 + 30 + 30 + 40);
    }

    private static void next() {
        HereMiss x = Due.room(4);
        Due.due("12: the least of like ones", x.next(1, 0, 0), 0);
        Due.due("12: none FALSE", x.next(1, 0, 1), 0);
        Due.due("12: of those not in LOOKS", x.next(1, 3, 0), 2);
        Due.due("12: all are in LOOKS", x.next(1, 15, 0), -2);
        Due.due("12: all and more", x.next(1, 255, 1), -2);
        x.mend(1, 5, 1);
        x.mend(2, 5, 1);
        x.mend(3, 5, 1);
        Due.helps(x, 0, 2, 12);
        Due.due("12: at one whom somebody answers for", x.next(1, 0, 0), 2);
        Due.due("12: one is left", x.next(1, 0, 1), 1);
        Due.due("12: then the other", x.next(1, 4, 0), 3);
        Due.due("12: none is left", x.next(1, 4, 1), 0);
        Due.helps(x, 0, 1, 12);
        Due.due("12: no look helps", x.next(1, 0, 0), 0);
        Due.due("12: one stays", x.next(1, 0, 1), 1);
    }

    /** 0 comes 55 tenths late and answers for 2 and 3, who come in lessons 3 and 7 alone, in the order of the way. */
    private static void lessonsAndWays() {
        HereMiss x = Due.room(4);
        x.mend(0, 7, 55);
        Due.helps(x, 0, 1, 12);
        int[][] lessons = {{2, 3, 7}, {3, 3, 3}};
        for (int[] one : lessons) {
            x.mend(one[0], 5, one[1]);
            x.mend(one[0], 6, one[2]);
        }
        // By numbers: 0 is late (30), 1 answers (20), 2 comes at 50, 3 at 80 or so; by names it runs the other way.
        Due.due("11: lesson 0 by numbers", x.enough(1, 1), 8);
        Due.due("11: its tenths", x.enough(1, 2), 30 + 20 + 30 + 40);
        Due.due("11: lesson 3, all are there", x.enough(31, 0), 0);
        Due.due("11: its tenths", x.enough(31, 2), 30 + 20 + 30 + 40);
        Due.due("11: lesson 7", x.enough(71, 1), 8);
        Due.due("11: lesson 0 by names", x.enough(0, 2), 30 + 30 + 20 + 10);
        Due.due("11: lesson 3 by names", x.enough(30, 2), 40 + 30 + 20 + 10);
        Due.due("12: lesson 0 by numbers", x.next(1, 0, 0), 3);
        Due.due("12: a look at 1 takes so long that 0 comes ahead of 2: one stays", x.next(1, 2, 1), 1);
        Due.due("12: lesson 3 by numbers", x.next(31, 0, 0), 0);
        Due.due("12: lesson 7 by numbers", x.next(71, 0, 0), 3);
        Due.due("12: by names none is FALSE", x.next(0, 0, 0), 0);
        Due.due("16: lesson 7 by names", x.inTime(70, 2), 30);
        Due.due("16: lesson 3 by names", x.inTime(30, 2), 40);
        Due.due("16: lesson 7 by numbers", x.inTime(71, 2), 50);
        Due.due("16: by seats as by numbers", x.inTime(32, 3), 80);
        x.called(91, 0, 0);
        // As if each were there from the beginning or not at all, whatever LATE was in the call ahead.
        Due.due("14: 0 is there from the beginning", x.absent(7, 12, 1), 3);
        Due.due("14: by names it answers for 3 first", x.absent(7, 2, 0), 0);
        Due.due("14: by names", x.absent(11, 2, 1), 3);
        x.mend(2, 2, 0);
        Due.due("14: by seats 2 comes first", x.absent(7, 22, 1), 3);
        Due.due("14: by seats, one head, for 2", x.absent(5, 21, 1), 1);
        Due.due("14: by numbers, one head, for 2", x.absent(5, 11, 1), 1);
        Due.due("14: by names, one head, for 3", x.absent(9, 1, 1), 1);
        Due.due("15: by names, one head, for 3", x.ask(9, 1), 0);
        Due.due("15: by numbers, none", x.ask(9, 11), -2);
        Due.due("15: by seats, none", x.ask(9, 21), -2);
        x.mend(3, 2, 0);
        x.mend(2, 2, 1);
        Due.due("14: by seats 3 comes first", x.absent(9, 21, 1), 1);
        Due.due("15: by seats 3 comes first", x.ask(9, 21), 0);
    }

    private static void heads() {
        HereMiss x = Due.room(3);
        x.mend(1, 7, 7);
        x.mend(2, 5, 4);
        x.mend(2, 6, 5);
        x.mend(2, 7, 999);
        Due.due("13: one", x.heads(0, 0), 1);
        Due.due("13: LATE not yet", x.heads(0, 6), 1);
        Due.due("13: LATE by now", x.heads(0, 7), 2);
        Due.due("13: not HERE", x.heads(3, 9999), 2);
        Due.due("13: FROM", x.heads(4, 9999), 3);
        Due.due("13: TILL, LATE", x.heads(5, 998), 2);
        Due.due("13: TILL, LATE by now", x.heads(5, 999), 3);
        Due.due("13: behind TILL", x.heads(6, 999), 2);
    }

    private static void absent() {
        HereMiss x = Due.room(4);
        x.mend(3, 5, 5);
        x.mend(3, 7, 999);
        Due.due("14: all, whatever FROM and LATE say", x.absent(15, 14, 0), 1);
        Due.due("14: none of them", x.absent(0, 10, 1), 0);
        Due.due("14: who is in none", x.absent(0, 10, 2), 15);
        Due.due("14: no set", x.absent(15, 13, 0), 0);
        Due.due("14: no least", x.absent(15, 13, 1), -2);
        Due.due("14: nobody is in none of none", x.absent(15, 13, 2), -2);
        Due.due("14: exactly so many", x.absent(7, 14, 0), 0);
        Due.due("14: exactly these", x.absent(7, 13, 1), 7);
        Due.due("14: exactly these, in none", x.absent(7, 13, 2), 8);
        Due.due("14: more heads than pupils", x.absent(15, 19, 0), 0);
        Due.due("14: marks of none", x.absent(16, 11, 0), 0);
        Due.helps(x, 0, 1, 6);
        Due.helps(x, 3, 1, 4);
        // 15 of three: {0 1 3} and {0 2 3}, as 0 or 3 answers for the fourth.
        Due.due("14: two sets", x.absent(15, 13, 0), 2);
        Due.due("14: the least", x.absent(15, 13, 1), 11);
        Due.due("14: in none", x.absent(15, 13, 2), 0);
        Due.due("14: of two, one set", x.absent(15, 12, 0), 1);
        Due.due("14: these two", x.absent(15, 12, 1), 9);
        Due.due("14: the others are in none", x.absent(15, 12, 2), 6);
        // By names 2 comes ahead of 1: 0 answers for 2, and nobody for 1.
        Due.due("14: by names", x.absent(15, 2, 0), 0);
        Due.due("14: by names without 1", x.absent(13, 2, 1), 9);
        Due.due("14: by seats", x.absent(15, 22, 1), 9);
    }

    private static void ask() {
        HereMiss x = Due.room(4);
        Due.due("15: of like ones the least", x.ask(15, 14), 0);
        Due.due("15: no set", x.ask(15, 13), -2);
        Due.helps(x, 0, 1, 6);
        Due.helps(x, 3, 1, 4);
        // {0 1 3} and {0 2 3}: of 1 it is there in one, of 0 in both.
        Due.due("15: half of them", x.ask(15, 13), 1);
        Due.helps(x, 0, 1, 14);
        Due.helps(x, 3, 0, 0);
        // {0 1 2}, {0 1 3}, {0 2 3}: 1 in two, not in one.
        Due.due("15: three sets", x.absent(15, 13, 0), 3);
        Due.due("15: the greater part is two of three", x.ask(15, 13), 1);
        // Only 0 there: 0 answers for one of the others by the order alone.
        Due.due("15: one head", x.ask(3, 11), 0);
        // {0 1} and {0 2} mark 7: 3 is not there in either, which is the greater part, too.
        Due.due("15: of others", x.absent(7, 12, 0), 2);
        Due.due("15: half of these", x.ask(7, 12), 1);
        Due.helps(x, 3, 3, 7);
        Due.due("15: sets", x.absent(15, 11, 0), 1);
        Due.due("15: one set, all alike", x.ask(15, 11), 0);
        Due.due("15: by names", x.ask(15, 1), 0);
        // {3 0}, {3 1}, {3 2}: 0 is there in one of three, 3 in all.
        Due.due("15: two heads", x.absent(15, 12, 0), 3);
        Due.due("15: one of three", x.ask(15, 12), 0);
        Due.due("15: none of it is changed", x.called(1, 0, 0), 15);
    }

    private static void inTime() {
        HereMiss x = Due.room(4);
        Due.due("16: the first one", x.inTime(1, 0), 0);
        Due.due("16: the second", x.inTime(1, 1), 10);
        Due.due("16: the last", x.inTime(1, 3), 60);
        Due.due("16: by names", x.inTime(0, 0), 90);
        x.mend(1, 7, 500);
        Due.due("16: whatever it is now", x.inTime(1, 1), 10);
        Due.due("16: GAP ahead", x.inTime(1, 3), 10 + 30 + 30);
        x.mend(3, 5, 2);
        x.mend(3, 6, 2);
        Due.due("16: not HERE", x.inTime(11, 3), -2);
        Due.due("16: HERE", x.inTime(21, 3), 70);
        Due.due("16: behind TILL", x.inTime(31, 3), -2);
        // If it came first, it would answer for 1 and so speed its own name up.
        Due.helps(x, 3, 1, 2);
        Due.due("16: as one that is not there by then", x.inTime(21, 3), 70);
        Due.helps(x, 0, 1, 8);
        Due.due("16: another one's answer does not count", x.inTime(21, 3), 70);
        Due.law(x, "600");
        Due.due("16: 999 at most", x.inTime(21, 3), 999);
        Due.due("16: below", x.inTime(21, 1), 600);
        Due.due("16: it stays as it was", x.of(1, 7), 500);
        Due.law(x, "333");
        Due.due("16: 999", x.inTime(21, 3), 999);
        Due.law(x, "332");
        Due.due("16: 996", x.inTime(21, 3), 996);
    }

    private static void fire() {
        HereMiss x = Due.room(4);
        x.mend(1, 5, 1);
        x.mend(2, 7, 999);
        Due.helps(x, 0, 1, 2);
        Due.due("17: MARKED, not HERE", x.fire(0, 0), 2);
        Due.due("17: HERE, not MARKED", x.fire(0, 1), 4);
        Due.due("17: another lesson", x.fire(1, 0), 0);
        Due.helps(x, 0, 7, 255);
        Due.due("17: MARKED falsely, but HERE", x.fire(0, 0), 2);
        Due.due("17: all MARKED", x.fire(0, 1), 0);
        Due.helps(x, 0, 0, 0);
        x.mend(2, 7, 40);
        Due.due("17: by numbers it comes in time", x.fire(0, 1), 0);
        x.mend(2, 7, 41);
        Due.due("17: by one tenth not", x.fire(0, 1), 4);
    }

    private static void wrongInputs() {
        HereMiss x = Due.room(3);
        int[] lessonsAndWays = {-1, 3, 9, 13, 99, 100, 102, -10, Integer.MIN_VALUE, Integer.MAX_VALUE};
        for (int tw : lessonsAndWays) {
            Due.due("8: tw " + tw, x.called(tw, 0, 0), -1);
            Due.due("9: tw " + tw, x.answers(tw, 0, 0), -1);
            Due.due("11: tw " + tw, x.enough(tw, 0), -1);
            Due.due("12: tw " + tw, x.next(tw, 0, 0), -1);
            Due.due("16: tw " + tw, x.inTime(tw, 0), -1);
        }
        int[] bits = {-1, 256, Integer.MIN_VALUE, Integer.MAX_VALUE};
        for (int looks : bits) {
            Due.due("8: looks " + looks, x.called(0, looks, 0), -1);
            Due.due("9: looks " + looks, x.answers(0, looks, 0), -1);
            Due.due("12: looks " + looks, x.next(0, looks, 0), -1);
            Due.due("14: marks " + looks, x.absent(looks, 0, 0), -1);
            Due.due("15: marks " + looks, x.ask(looks, 0), -1);
        }
        int[] whats = {-1, 5, Integer.MIN_VALUE, Integer.MAX_VALUE};
        for (int what : whats) {
            Due.due("8: what " + what, x.called(0, 0, what), -1);
            Due.due("9: pupil " + what, x.answers(0, 0, what), -1);
            Due.due("10: what " + what, x.bestWay(0, what), -1);
            Due.due("11: what " + what, x.enough(0, what), -1);
            Due.due("12: what " + what, x.next(0, 0, what), -1);
            Due.due("14: what " + what, x.absent(0, 0, what), -1);
            Due.due("16: pupil " + what, x.inTime(0, what), -1);
            Due.due("17: what " + what, x.fire(0, what), -1);
        }
        Due.due("9: pupil 3", x.answers(0, 0, 3), -1);
        Due.due("16: pupil 3", x.inTime(0, 3), -1);
        Due.due("10: what 3", x.bestWay(0, 3), -1);
        Due.due("11: what 3", x.enough(0, 3), -1);
        Due.due("12: what 2", x.next(0, 0, 2), -1);
        Due.due("12: bad goes before NOT", x.next(0, 255, 2), -1);
        Due.due("14: what 3", x.absent(0, 0, 3), -1);
        Due.due("17: what 2", x.fire(0, 2), -1);
        int[] lessons = {-1, 10, Integer.MIN_VALUE, Integer.MAX_VALUE};
        for (int lesson : lessons) {
            Due.due("10: lesson " + lesson, x.bestWay(lesson, 0), -1);
            Due.due("13: lesson " + lesson, x.heads(lesson, 0), -1);
            Due.due("17: lesson " + lesson, x.fire(lesson, 0), -1);
        }
        int[] tenths = {-1, 10000, Integer.MIN_VALUE, Integer.MAX_VALUE};
        for (int tenth : tenths) {
            Due.due("13: tenth " + tenth, x.heads(0, tenth), -1);
        }
        int[] waysAndHeads = {-1, 30, 39, 100, Integer.MIN_VALUE, Integer.MAX_VALUE};
        for (int wm : waysAndHeads) {
            Due.due("14: wm " + wm, x.absent(0, wm, 0), -1);
            Due.due("15: wm " + wm, x.ask(0, wm), -1);
        }
        Due.due("14: most", x.absent(255, 29, 2), -2);
        Due.due("13: most", x.heads(9, 9999), 3);
        Due.due("8: most", x.called(92, 255, 4), 0);
    }
}
