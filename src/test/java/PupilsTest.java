/** Promises 1 to 7: a new object, pupils, mend, of, the tape and the law. */
public final class PupilsTest {
    public static void main(String[] args) {
        newObject();
        pupil();
        pupils();
        pupilsFromBelow();
        pupilsThatEnd();
        mend();
        of();
        feed();
        law();
        lawAnswers();
        faults();
        Due.end();
    }

    private static void newObject() {
        HereMiss x = new HereMiss();
        for (int what = 0; what <= 4; what++) {
            Due.due("1: count(" + what + ")", x.count(what), 0);
            Due.due("1: led(" + what + ")", x.led(what), 0);
        }
        Due.due("1: called", x.called(0, 0, 0), 0);
        Due.due("1: GAP", x.of(0, 8), 30);
        Due.due("1: COUNTS", x.of(0, 9), 4);
        Due.due("1: no image", x.back(), HereMiss.STATE);
        Due.due("1: nothing to undo", x.undo(), HereMiss.STATE);
        Due.due("1: nothing to redo", x.redo(), HereMiss.STATE);
        for (int shelf = 0; shelf < 6; shelf++) {
            Due.due("1: shelf " + shelf, x.put(shelf, 0, 1), -11);
        }
        x.pupil(1, 1);
        Due.due("1: another one is empty", new HereMiss().count(0), 0);
    }

    private static void pupil() {
        HereMiss x = new HereMiss();
        Due.due("2: name below", x.pupil(-1, 5), -1);
        Due.due("2: name above", x.pupil(100, 5), -1);
        Due.due("2: slow below", x.pupil(5, 0), -1);
        Due.due("2: slow above", x.pupil(5, 100), -1);
        Due.due("2: none came", x.count(0), 0);
        Due.due("2: least", x.pupil(0, 1), 0);
        Due.due("2: most", x.pupil(99, 99), 1);
        int[] due = {99, 99, -1, 0, 0, 0, 9, 0};
        for (int what = 0; what < due.length; what++) {
            Due.due("2: at first " + what, x.of(1, what), due[what]);
        }
        for (int i = 2; i < 8; i++) {
            Due.due("2: of the same name", x.pupil(99, 20), i);
        }
        Due.due("2: full", x.pupil(1, 1), -3);
        Due.due("2: bad goes before full", x.pupil(100, 1), -1);
        Due.due("2: eight", x.count(0), 8);
    }

    private static void pupils() {
        HereMiss x = new HereMiss();
        Due.due("3: missing row", x.pupils(0, 0, 3), 0);
        Due.row(x, 0, 0, 77, 40, 12, 3, 10, 30, -1);
        Due.due("3: shelf", x.pupils(6, 0, 1), -1);
        Due.due("3: shelf below", x.pupils(-1, 0, 1), -1);
        Due.due("3: n 0", x.pupils(0, 0, 0), -1);
        Due.due("3: n 9", x.pupils(0, 0, 9), -1);
        Due.due("3: place behind", x.pupils(0, 7, 1), 0);
        Due.due("3: place far behind", x.pupils(0, Integer.MAX_VALUE, 8), 0);
        Due.due("3: two of two", x.pupils(0, 1, 2), 2);
        int[] due = {40, 12, 3, 0, 0, 0, 9, 0};
        for (int what = 0; what < due.length; what++) {
            Due.due("3: number 0, " + what, x.of(0, what), due[what]);
        }
        Due.due("3: seat -1", x.of(1, 2), -1);
        Due.due("3: no changes", x.count(2), 0);
        Due.due("3: the row ends", x.pupils(0, 4, 2), 1);
        Due.due("3: the row ends within a three", x.pupils(0, 5, 1), 0);
        x.body(0);
        x.keep(1, 0);
        Due.due("3: a voice", x.pupils(1, 0, 1), -12);
        for (int sort = 1; sort <= 4; sort++) {
            x.row(1, sort, 6);
            Due.due("3: sort " + sort, x.pupils(1, 0, 1), -12);
        }
        Due.due("3: bad goes before -12", x.pupils(1, 0, 0), -1);
        x.row(1, 0, 0);
        Due.due("3: empty row", x.pupils(1, 0, 1), 0);
    }

    private static void pupilsFromBelow() {
        int[] below = {-1, -2, -3, -4, Integer.MIN_VALUE, Integer.MIN_VALUE + 1};
        for (int place : below) {
            HereMiss x = new HereMiss();
            Due.due("3: place below, missing row", x.pupils(0, place, 1), 0);
            Due.due("3: place below, missing row, n 0", x.pupils(0, place, 0), -1);
            Due.due("3: place below, missing row, n 9", x.pupils(0, place, 9), -1);
            Due.due("3: place below, no shelf", x.pupils(6, place, 1), -1);
            Due.row(x, 0, 0, 1, 2, 3, 4, 5, 6, 7, 8, 9);
            Due.due("3: place below, a row", x.pupils(0, place, 1), 0);
            Due.due("3: place below, a row, three", x.pupils(0, place, 3), 0);
            Due.due("3: place below, a row, n 0", x.pupils(0, place, 0), -1);
            x.row(1, 1, 6);
            Due.due("3: place below, shorts", x.pupils(1, place, 1), -12);
            x.keep(1, x.body(0));
            Due.due("3: place below, a voice", x.pupils(1, place, 1), -12);
            Due.due("3: place below, nobody came", x.count(0), 0);
        }
    }

    private static void pupilsThatEnd() {
        long[][] wrong = {{100, 1, 0}, {-1, 1, 0}, {0, 0, 0}, {0, 100, 0}, {0, 1, -2}, {0, 1, 16}};
        for (long[] three : wrong) {
            HereMiss x = new HereMiss();
            Due.row(x, 2, 0, 1, 1, 1, three[0], three[1], three[2], 2, 2, 2);
            Due.due("3: one is not so", x.pupils(2, 0, 3), 1);
            Due.due("3: those ahead came", x.count(0), 1);
            Due.due("3: from behind it", x.pupils(2, 6, 8), 1);
        }
        HereMiss x = new HereMiss();
        x.row(0, 0, 60);
        for (int i = 0; i < 60; i++) {
            x.put(0, i, 1 + i / 3);
        }
        Due.due("3: seven", x.pupils(0, 0, 7), 7);
        Due.due("3: seats so far", x.of(6, 2), 7);
        Due.due("3: then full", x.pupils(0, 21, 3), 1);
        Due.due("3: the eighth", x.of(7, 0), 8);
        Due.due("3: full at once", x.pupils(0, 0, 1), 0);
        Due.due("3: eight", x.count(0), 8);
    }

    private static void mend() {
        HereMiss x = new HereMiss();
        x.pupil(40, 15);
        x.pupil(41, 16);
        int[] first = {41, 16, -1, 0, 0, 0, 9, 0};
        int[] least = {0, 1, -1, 0, 0, 0, 0, 0};
        int[] most = {99, 99, 15, 7, 255, 9, 9, 999};
        for (int what = 0; what < 8; what++) {
            String call = "4: mend(1, " + what;
            Due.due(call + ", below)", x.mend(1, what, least[what] - 1), HereMiss.VOID);
            Due.due(call + ", above)", x.mend(1, what, most[what] + 1), HereMiss.VOID);
            Due.due(call + ", least)", x.mend(1, what, least[what]), first[what]);
            Due.due(call + ", most)", x.mend(1, what, most[what]), least[what]);
            Due.due(call + ", again)", x.mend(1, what, most[what]), most[what]);
            Due.due(call + ") is kept", x.of(1, what), most[what]);
            Due.due("4: no such pupil", x.mend(2, what, least[what]), HereMiss.VOID);
            Due.due("4: pupil below", x.mend(-1, what, least[what]), HereMiss.VOID);
        }
        Due.due("4: not another one's", x.of(0, 0), 40);
        for (int what = 8; what <= 9; what++) {
            Due.due("4: room's first", x.mend(0, what, 99), what == 8 ? 30 : 4);
            Due.due("4: room's most", x.mend(0, what, 0), 99);
            Due.due("4: room's below", x.mend(0, what, -1), HereMiss.VOID);
            Due.due("4: room's above", x.mend(0, what, 100), HereMiss.VOID);
            Due.due("4: room's number", x.mend(1, what, 5), HereMiss.VOID);
            Due.due("4: room's number below", x.mend(-1, what, 5), HereMiss.VOID);
            Due.due("4: room's kept", x.of(0, what), 0);
        }
        Due.due("4: what 10", x.mend(0, 10, 1), HereMiss.VOID);
        Due.due("4: what -1", x.mend(0, -1, 1), HereMiss.VOID);
        Due.due("4: GAP without pupils", new HereMiss().mend(0, 8, 7), 30);
    }

    private static void of() {
        HereMiss x = new HereMiss();
        Due.due("5: no pupil", x.of(0, 10), HereMiss.VOID);
        x.pupil(3, 4);
        x.pupil(5, 6);
        x.mend(1, 7, 1);
        for (int i = 1; i <= 3; i++) {
            x.call(1, 0);
            Due.due("5: marks", x.of(0, 10), i);
            Due.due("5: no marks before it came", x.of(1, 10), i);
        }
        x.mend(1, 7, 999);
        x.call(1, 0);
        Due.due("5: not marked", x.of(1, 10), 3);
        Due.due("5: what 11", x.of(0, 11), HereMiss.VOID);
        Due.due("5: what -1", x.of(0, -1), HereMiss.VOID);
        Due.due("5: number 2", x.of(2, 10), HereMiss.VOID);
        Due.due("5: number -1", x.of(-1, 10), HereMiss.VOID);
        Due.due("5: number -1, NAME", x.of(-1, 0), HereMiss.VOID);
        Due.due("5: number 1, GAP", x.of(1, 8), HereMiss.VOID);
        Due.due("5: number 1, COUNTS", x.of(1, 9), HereMiss.VOID);
    }

    private static void feed() {
        HereMiss x = new HereMiss();
        Due.due("6: -1", x.feed(-1), -1);
        Due.due("6: 256", x.feed(256), -1);
        for (int i = 1; i <= 120; i++) {
            Due.due("6: " + i, x.feed(i % 2 == 0 ? 0 : 255), i);
        }
        Due.due("6: full", x.feed('1'), -3);
        Due.due("6: bad goes before full", x.feed(256), -1);
        Due.due("6: count", x.count(1), 120);
        Due.due("6: fault", x.law(), -100);
        Due.due("6: empty then", x.count(1), 0);
        Due.due("6: from the beginning", x.feed('1'), 1);
    }

    private static void law() {
        HereMiss x = new HereMiss();
        x.pupil(7, 20);
        Due.due("7: empty", x.law(), -100);
        Due.due("7: without a text", x.called(0, 0, 1), 20);
        Due.due("7: a text", Due.law(x, "77"), 1);
        Due.due("7: counts", x.called(0, 0, 1), 77);
        Due.due("7: the tape is empty", x.count(1), 0);
        Due.due("7: a fault", Due.law(x, "5+"), -102);
        Due.due("7: the tape is empty by a fault, too", x.count(1), 0);
        Due.due("7: the law stays by a fault", x.called(0, 0, 1), 77);
        Due.due("7: another text", Due.law(x, "s*2"), 1);
        Due.due("7: counts instead", x.called(0, 0, 1), 40);
        x.mend(0, 1, 9);
        Due.due("7: by the number of now", x.called(0, 0, 1), 18);
        x.undo();
        Due.due("7: and undone", x.called(0, 0, 1), 40);
        StringBuilder longest = new StringBuilder("1");
        while (longest.length() < 119) {
            longest.append("+1");
        }
        longest.append('0');
        Due.due("7: 120 bytes", Due.law(x, longest.toString()), 1);
        Due.due("7: counts 59 and 10", x.called(0, 0, 1), 59 + 10);
        StringBuilder lines = new StringBuilder();
        while (lines.length() < 118) {
            lines.append("0?1;");
        }
        Due.due("7: many lines end too early", Due.law(x, lines.toString()), -220);
        Due.due("7: many lines", Due.law(x, lines.substring(4) + "0?44"), 1);
        Due.due("7: none counts", x.called(0, 0, 1), 1);
    }

    /** What a text of one name gives, in a room where this is told by the second number. */
    private static void lawAnswers() {
        Object[][] texts = {
            {"0", 1}, {"1", 1}, {"999", 999}, {"1000", 999}, {"9999", 999}, {"0012", 12}, {"-5", 1}, {"2--3", 5},
            {"s", 20}, {"g", 33}, {"k", 1}, {"p+7", 7}, {"w+7", 7}, {"l+7", 7},
            {"2+3*4", 14}, {"(2+3)*4", 20}, {"20-3-4", 13}, {"100/7/2", 7}, {"100%7*10", 20}, {"7*9%10", 3},
            {"5/0+9", 9}, {"5%0+9", 9}, {"50+(0-7)/2", 47}, {"50+(0-7)%4", 47}, {"50-7%(0-4)", 47},
            {"8+(3<5)", 9}, {"8+(5<5)", 8}, {"8+(5=5)", 9}, {"8+(5=6)", 8}, {"8+(6>5)", 9}, {"8+(5>5)", 8},
            {"8+(0-3<2)", 9}, {"8+(7|0)", 9}, {"8+(0|0)", 8}, {"8+(7&2)", 9}, {"8+(7&0)", 8}, {"8+(0|4&0)", 8},
            {"8+(4&2=2)", 9}, {"8+(1|1&0)", 9}, {"8+!0", 9}, {"8+!7", 8}, {"8+!!7", 9}, {"8--!0", 9}, {"-2*3+20", 14},
            {"8-!1*5", 8}, {"!s=0", 1}, {"7|3", 1}, {"6&3", 1},
            {"1?5", 5}, {"0?5", 1}, {"0?5;6", 6}, {"0?5;7?6", 6}, {"0-1?5;6", 5}, {"0?5;0?6", 1}, {"0?5;0?6;7;8", 7},
            {"5;6", 5}, {"0;6", 1}, {"1?0;6", 1}, {"s=20?k+40;9", 41}, {"p|w|l?5;6", 6},
            {"9999*9999*43/1000/10", 417}, {"9999*9999*20<0?55;66", 66}, {"9999*9999*30<0?55;66", 55},
            {"(0-2147*1000*1000-483*1000-648)/(0-1)<0|0?55;66", 55}, {"(0-2147*1000*1000-483*1000-648)%(0-1)+5", 5},
            {"((((((9))))))", 9}, {"!!!!!!9+8", 9}, {"------9+8", 17}, {"-(-(-(4)))+9", 5},
        };
        for (Object[] text : texts) {
            HereMiss x = new HereMiss();
            x.pupil(7, 20);
            x.mend(0, 8, 33);
            Due.due("7: " + text[0], Due.law(x, (String) text[0]), 1);
            Due.due("7: it gives by " + text[0], x.called(0, 0, 1), ((Integer) text[1]).intValue());
        }
        HereMiss x = new HereMiss();
        for (int i = 0; i < 3; i++) {
            x.pupil(50 - i, 10 + i);
        }
        x.mend(0, 3, 1);
        x.mend(0, 4, 2);
        x.mend(1, 7, 999);
        x.mend(2, 7, 999);
        Due.law(x, "1");
        Due.due("7: one each", x.called(1, 0, 1), 3);
        Due.law(x, "s");
        Due.due("7: s of who answers, 0 for nobody", x.called(1, 0, 1), 10 + 10 + 1);
        Due.law(x, "k*100+1");
        Due.due("7: k 1, 2, 0", x.called(1, 0, 1), 101 + 201 + 1);
        Due.law(x, "p*p*100+1");
        Due.due("7: p 0, 1, 2", x.called(1, 0, 1), 1 + 101 + 401);
        Due.law(x, "w*100+1");
        Due.due("7: w 0", x.called(0, 0, 1), 3);
        Due.due("7: w 1", x.called(1, 0, 1), 303);
        Due.due("7: w 2", x.called(2, 0, 1), 603);
        Due.law(x, "l*100+1+k");
        Due.due("7: l at 0 and 1", x.called(1, 3, 1), 102 + 101 + 1);
    }

    private static void faults() {
        Object[][] texts = {
            {"", 0}, {";", 0}, {"1;", 2}, {"1;;", 2}, {"?", 0}, {"1?", 2}, {"1?2?3", 3}, {"1?2;", 4}, {"(1?2)", 2},
            {"12345", 4}, {"00000", 4}, {"1+12345", 6}, {"s s", 1}, {" s", 0}, {"ss", 1}, {"s1", 1}, {"1s", 1},
            {"x", 0}, {"S", 0}, {"s+x", 2}, {"1<2<3", 3}, {"1<2=3", 3}, {"1=2>3", 3}, {"1<(2<3)", -1}, {"1<", 2},
            {"1+", 2}, {"1*", 2}, {"1*/", 2}, {"1++2", 2}, {"+1", 0}, {"1+-2", -1}, {"1|", 2}, {"1||2", 2}, {"1&&2", 2},
            {"!", 1}, {"-", 1}, {"!+", 1}, {"(", 1}, {")", 0}, {"()", 1}, {"(1", 2}, {"(1))", 3}, {"1)", 1}, {"1(", 1},
            {"(1;2)", 2}, {"1!", 1}, {"1!2", 1}, {"s?g;k?", 6}, {"s?g;k?p", -1},
            {"((((((1))))))", -1}, {"(((((((1)))))))", 6}, {"!!!!!!1", -1}, {"!!!!!!!1", 6}, {"------1", -1},
            {"-------1", 6}, {"(-(!(-1))", 9}, {"(-(!(-1))))", 10}, {"(-(!(-(1))))", 6}, {"(-(!(-!1))))", 6},
            {"(-(!(-1)))", -1}, {"(-(!(--1)))", 6}, {"(-(!((s-1)-1)))", -1}, {"!!!!!!1+!!!!!!1", -1},
            {"!!!!!!1-!!!!!!!1", 14}, {"((((((1-1))))))", -1}, {"((((((1--1))))))", 8}, {"((((((!1))))))", 6},
            {"(!(!(!1)+-1)+--1)+---1", -1}, {"1\u00ff", 1}, {"\u0000", 0}, {"1,2", 1}, {"1.5", 1},
        };
        for (Object[] text : texts) {
            int fault = ((Integer) text[1]).intValue();
            Due.due("7: fault of " + text[0], Due.law(new HereMiss(), (String) text[0]), fault < 0 ? 1 : -100 - fault);
        }
    }
}
