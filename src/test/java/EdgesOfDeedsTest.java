/**
 * Promises 25 to 42 at the edges that the document names: the last value that is allowed, the first
 * that isn't, and rows that are empty or full. What a refused call leaves as it was: RefusedTest.
 */
public final class EdgesOfDeedsTest {
    private static final long VOID = Long.MIN_VALUE;
    private static final int LEAST = Integer.MIN_VALUE, MOST = Integer.MAX_VALUE;

    public static void main(String[] args) {
        drawn();
        drawnWraps();
        call();
        caught();
        punish();
        led();
        image();
        changesOfEach();
        changesKept();
        changesOfAll();
        doneAgain();
        bodies();
        actsThatWrap();
        actsThatAreNone();
        trace();
        keep();
        rows();
        putAndElement();
        lowestBits();
        shift();
        shiftPlaces();
        taken();
        count();
        Due.end();
    }

    private static void drawn() {
        HereMiss x = Due.room(8);
        Due.due("25: one morning", x.drawn(5, 10, 0, 1), 360);
        Due.due("25: fifty mornings", x.drawn(5, 500, 0, 1), 50 * 360);
        Due.due("25: fifty by SEATS", x.drawn(5, 502, 0, 1), 50 * 360);
        Due.due("25: ILL 0, all are there", x.drawn(5, 501, 0, 0), 0);
        Due.due("25: ILL 12, none is", x.drawn(5, 501, 12, 1), 50 * 240);
        for (int nw : new int[] {-1, 0, 1, 9, 13, 503, 509, 510, 512, LEAST, MOST}) {
            Due.due("25: nw " + nw, x.drawn(5, nw, 0, 0), -1);
        }
        for (int ill : new int[] {-1, 13, LEAST, MOST}) {
            Due.due("25: ILL " + ill, x.drawn(5, 10, ill, 0), -1);
        }
        for (int what : new int[] {-1, 2, LEAST, MOST}) {
            Due.due("25: what " + what, x.drawn(5, 10, 0, what), -1);
        }
        for (int i = 0; i < 8; i++) {
            x.mend(i, 5, 9);
            x.mend(i, 6, 0);
            x.mend(i, 7, 999);
        }
        Due.due("25: there from the beginning, whatever FROM, TILL, LATE say", x.drawn(5, 501, 0, 1), 50 * 360);
    }

    /** Of one alone: 30 tenths if it is ill, 10 if it is there, by z and 0 to 11 from it. */
    private static void drawnWraps() {
        HereMiss x = Due.room(1);
        for (int seed : new int[] {0, 1, -1, MOST, LEAST, 12345, -12345, 1103515245}) {
            long wide = seed;
            int ill = 0;
            int next = 0;
            for (int n = 1; n <= 2; n++) {
                wide = (int) (wide * 1103515245L + 12345L);
                next = (int) ((wide & 0xffffffffL) / 256 % 12);
                Due.due("25: the draw is within 0 .. 11", next >= 0 && next < 12 ? 1 : 0, 1);
                ill += n == 1 && next < 6 ? 1 : 0;
            }
            Due.due("25: half of them, SEED " + seed, x.drawn(seed, 11, 6, 1), ill == 1 ? 30 : 10);
            int first = (int) (((int) (seed * 1103515245L + 12345L) & 0xffffffffL) / 256 % 12);
            Due.due("25: just ill, SEED " + seed, x.drawn(seed, 11, first + 1, 1), 30);
            Due.due("25: just there, SEED " + seed, x.drawn(seed, 11, first, 1), 10);
            Due.due("25: the second, just there", x.drawn(seed, 21, next, 1), 10 + (first < next ? 30 : 10));
            Due.due("25: the second, just ill", x.drawn(seed, 21, next + 1, 1), 30 + (first < next + 1 ? 30 : 10));
        }
    }

    private static void call() {
        HereMiss x = Due.room(8);
        for (int tw : new int[] {-1, 3, 9, 10 * 10, 93, 99, LEAST, MOST}) {
            Due.due("26: tw " + tw, x.call(tw, 0), -1);
        }
        for (int looks : new int[] {-1, 256, LEAST, MOST}) {
            Due.due("26: LOOKS " + looks, x.call(0, looks), -1);
        }
        Due.due("28: none of these was made", x.led(0), 0);
        Due.due("26: LESSON 9, by SEATS, LOOKS at all", x.call(92, 255), 255);
        Due.due("28: tenths", x.led(1), 360 + 80);
        Due.due("28: MARKS of eight", x.led(2), 8);
        for (int i = 0; i < 8; i++) {
            Due.due("5: a MARK more", x.of(i, 10), 1);
        }
        HereMiss y = Due.room(8);
        Due.law(y, "9999");
        for (int i = 1; i <= 450; i++) {
            y.call(1, 0);
        }
        Due.due("28: calls of a whole life", y.led(0), 450);
        Due.due("28: tenths of a whole life", y.led(1), 450 * 8 * 999);
        Due.due("28: MARKS of a whole life", y.led(2), 450 * 8);
        Due.due("5: MARKS of one", y.of(7, 10), 450);
    }

    private static void caught() {
        HereMiss x = Due.room(8);
        for (int i = 1; i < 8; i++) {
            x.mend(i, 5, 1);
        }
        Due.helps(x, 0, 7, 255);
        Due.due("26: LOOKS at all", x.call(1, 255), 1);
        Due.due("28: seven are CAUGHT", x.led(3), 7);
        x.call(1, 254);
        Due.due("28: seven more", x.led(3), 14);
        x.call(1, 1);
        Due.due("28: one who is THERE is not", x.led(3), 14);
        Due.helps(x, 0, 1, 255);
        x.call(1, 192);
        Due.due("28: nobody would have answered any more", x.led(3), 14);
        x.call(1, 2);
        Due.due("28: one", x.led(3), 15);
        x.mend(0, 7, 1);
        x.call(1, 255);
        Due.due("28: nobody is THERE at the first name; then one is, for seven", x.led(3), 22);
        x.mend(0, 7, 0);
        Due.helps(x, 0, 7, 1);
        x.call(1, 255);
        Due.due("28: none without its bit", x.led(3), 22);
        x.mend(0, 5, 1);
        Due.helps(x, 0, 7, 255);
        x.call(1, 255);
        Due.due("28: none where nobody is", x.led(3), 22);
    }

    private static void punish() {
        HereMiss x = Due.room(8);
        for (int pupil : new int[] {-1, 8, LEAST, MOST}) {
            Due.due("27: pupil " + pupil, x.punish(pupil), -1);
        }
        Due.due("28: none was punished", x.led(4), 0);
        for (int i = 0; i < 8; i++) {
            x.mend(i, 3, i);
            Due.due("27: BOLD was", x.punish(i), i);
            Due.due("27: BOLD is", x.of(i, 3), 0);
            Due.due("28: punished", x.led(4), i + 1);
        }
        Due.due("27: of an empty room", new HereMiss().punish(0), -1);
    }

    private static void led() {
        HereMiss x = Due.room(1);
        for (int what : new int[] {-1, 5, LEAST, MOST}) {
            Due.due("28: what " + what, x.led(what), -1);
        }
        Due.due("28: what 0", x.led(0), 0);
        Due.due("28: what 4", x.led(4), 0);
    }

    private static void image() {
        HereMiss x = Due.room(1);
        Due.due("30: none", x.back(), -5);
        x.call(1, 0);
        Due.due("30: none still", x.back(), -5);
        Due.due("28: it laid nothing back", x.led(0), 1);
        Due.due("29: of one call", x.image(), 1);
        for (int i = 1; i < 8; i++) {
            x.pupil(i, i);
            x.mend(i, 3, i);
        }
        x.mend(0, 3, 7);
        x.call(1, 0);
        Due.due("28: MARKS of both calls", x.led(2), 9);
        Due.due("30: of one call", x.back(), 1);
        Due.due("30: BOLD at the image", x.of(0, 3), 0);
        Due.due("30: MARKS at the image", x.of(0, 10), 1);
        for (int i = 1; i < 8; i++) {
            Due.due("30: came since: BOLD as it is", x.of(i, 3), i);
            Due.due("30: came since: no MARKS", x.of(i, 10), 0);
        }
        Due.due("28: MARKS at the image", x.led(2), 1);
        x.call(1, 0);
        x.punish(7);
        Due.due("29: a later one of all eight", x.image(), 2);
        x.punish(6);
        x.mend(7, 3, 5);
        x.call(1, 0);
        Due.due("30: the later one", x.back(), 2);
        Due.due("30: punished ahead of it", x.of(7, 3), 0);
        Due.due("30: punished behind it", x.of(6, 3), 6);
        Due.due("30: MARKS of the eighth", x.of(7, 10), 1);
        Due.due("28: punished", x.led(4), 1);
        Due.due("30: once more", x.back(), 2);
    }

    private static void changesOfEach() {
        int[] to = {7, 8, 9, 4, 6, 5, 8, 77, 66, 55};
        HereMiss x = Due.room(8);
        for (int what = 0; what < 10; what++) {
            int number = what < 8 ? 7 : 0;
            int was = x.of(number, what);
            Due.due("4: " + what, x.mend(number, what, to[what]), was);
            Due.due("42: a change", x.count(2), what + 1);
            x.mend(number, what, to[what]);
            Due.due("4: the same number is none", x.count(2), what + 1);
            Due.due("31: " + what, x.undo(), what);
            Due.due("31: it is as it was, " + what, x.of(number, what), was);
            x.mend(number, what, was);
            Due.due("32: the same number is none, " + what, x.redo(), 0);
            Due.due("32: it is again, " + what, x.of(number, what), to[what]);
        }
        for (int what = 0; what < 10; what++) {
            x.mend(what < 8 ? 7 : 0, what, what == 1 ? 0 : -2);
        }
        Due.due("31: a refused number is none", x.count(2), 10);
    }

    private static void changesKept() {
        HereMiss x = Due.room(1);
        for (int i = 1; i <= 39; i++) {
            x.mend(0, 7, i);
        }
        Due.due("42: 39 are kept", x.count(2), 39);
        x.mend(0, 7, 40);
        Due.due("42: 40 are kept", x.count(2), 40);
        x.mend(0, 7, 41);
        Due.due("42: 40 of 41 are", x.count(2), 40);
        for (int i = 39; i >= 0; i--) {
            Due.due("31: the latest first", x.undo(), i);
            Due.due("31: what it was", x.of(0, 7), i + 1);
        }
        Due.due("31: the first is kept no more", x.undo(), -5);
        Due.due("31: so it stays", x.of(0, 7), 1);
        for (int i = 39; i >= 0; i--) {
            Due.due("32: the latest undone first", x.redo(), i);
        }
        Due.due("32: none", x.redo(), -5);
        Due.due("32: all stand again", x.of(0, 7), 41);
        x.undo();
        x.undo();
        x.mend(0, 7, 900);
        Due.due("42: 38 and one", x.count(2), 39);
        Due.due("32: those undone are gone", x.redo(), -5);
        x.mend(0, 7, 901);
        x.mend(0, 7, 902);
        Due.due("42: 40 again", x.count(2), 40);
        for (int i = 0; i < 40; i++) {
            x.undo();
        }
        Due.due("31: none", x.undo(), -5);
        Due.due("31: the second is kept no more, either", x.of(0, 7), 2);
    }

    /** Fifty changes of all numbers of all pupils: the forty latest are taken back and done again. */
    private static void changesOfAll() {
        HereMiss x = Due.room(8);
        int[][] was = new int[50][];
        for (int i = 0; i < 50; i++) {
            int what = i % 8;
            int number = (i + i / 8) % 8;
            was[i] = new int[] {number, what, x.of(number, what), what == 2 ? 15 : 1 + i / 8};
            if (was[i][2] == was[i][3]) {
                was[i][3] = 7;
            }
            Due.due("4: change " + i, x.mend(number, what, was[i][3]), was[i][2]);
        }
        for (int i = 49; i >= 10; i--) {
            Due.due("31: change " + i, x.undo(), i - 10);
            Due.due("31: what it was, " + i, x.of(was[i][0], was[i][1]), was[i][2]);
        }
        Due.due("31: none", x.undo(), -5);
        for (int i = 10; i < 50; i++) {
            Due.due("32: change " + i, x.redo(), 49 - i);
            Due.due("32: what it became, " + i, x.of(was[i][0], was[i][1]), was[i][3]);
        }
        Due.due("32: none", x.redo(), -5);
    }

    private static void doneAgain() {
        HereMiss x = Due.room(2);
        Due.due("32: nothing to do again", x.redo(), -5);
        x.mend(0, 1, 77);
        Due.due("31: the only one", x.undo(), 0);
        x.call(1, 0);
        x.punish(1);
        x.image();
        x.back();
        x.pupil(5, 5);
        x.mend(0, 1, 10);
        x.mend(0, 1, 100);
        x.called(1, 0, 0);
        Due.due("32: no change came behind", x.redo(), 0);
        Due.due("32: it stands again", x.of(0, 1), 77);
        x.undo();
        x.mend(0, 9, 5);
        Due.due("32: one came behind", x.redo(), -5);
        Due.due("32: it doesn't stand", x.of(0, 1), 10);
        x.mend(1, 3, 6);
        x.punish(1);
        x.mend(1, 3, 0);
        Due.due("31: to 0 from 0 is none", x.count(2), 2);
        x.mend(1, 3, 2);
        Due.due("31: of what was a deed", x.undo(), 2);
        Due.due("31: BOLD by the deed", x.of(1, 3), 0);
        Due.due("31: of what was ahead of the deed", x.undo(), 1);
        Due.due("31: BOLD ahead of it", x.of(1, 3), 0);
    }

    private static void bodies() {
        HereMiss x = new HereMiss();
        for (int kind : new int[] {-1, 8, LEAST, MOST}) {
            Due.due("33: KIND " + kind, x.body(kind), -1);
        }
        Due.due("42: none", x.count(3), 0);
        for (int i = 0; i < 49; i++) {
            Due.due("33: its number", x.body(7 - i % 8), i);
        }
        Due.due("33: the fiftieth", x.body(5), 49);
        Due.due("33: one more", x.body(5), -3);
        Due.due("33: BAD goes ahead of FULL", x.body(-1), -1);
        Due.due("42: fifty", x.count(3), 50);
        Due.due("34: the fiftieth marks", x.act(49, 2, 0), 49 * 3);
        Due.due("34: there is no 50", x.act(50, 2, 0), 0);
        Due.due("36: the fiftieth on a SHELF", x.keep(0, 49), 1);
        Due.due("36: there is no 50", x.keep(0, 50), -1);
        Due.due("41: the fiftieth", x.taken(0, 5), 5);
    }

    private static void actsThatWrap() {
        HereMiss x = new HereMiss();
        for (int i = 0; i < 8; i++) {
            x.body(i);
        }
        Due.due("34: says wraps", x.act(1, 0, MOST), LEAST + 3);
        Due.due("34: twice wraps", x.act(0, 1, 1 << 30), LEAST);
        Due.due("34: EMPTY says twice", x.act(6, 0, MOST - 4), 2);
        Due.due("34: minus the least", x.act(2, 1, (1 << 30) - 2), LEAST);
        Due.due("34: FRIEND hears x + 1 of the most", x.act(3, 1, MOST), -((LEAST + 3) * 2));
        Due.due("34: FRIEND marks thrice", x.act(3, 2, MOST), (MOST ^ 3) * 3);
        Due.due("34: TWIN marks less", x.act(4, 2, LEAST), (LEAST ^ 4) - 9);
        Due.due("34: PARK tells", x.act(5, 3, 0), -12 - (1 ^ 5) * 3 ^ 5);
        for (int i = 8; i < 24; i++) {
            int n = x.body(5);
            Due.due("34: PARK tells, by its number", x.act(n, 3, i), -(i + 1 + n) * 2 - (1 ^ n) * 3 ^ 5);
        }
        Due.due("34: MISS hears", x.act(7, 1, MOST), (LEAST + 6 + 3) * 2 + (2 ^ 7) - 12);
        Due.due("34: MISS tells", x.act(7, 3, 0), 20 + 5 - 12 - ((1 ^ 7) - 12) - 1);
    }

    private static void actsThatAreNone() {
        HereMiss x = new HereMiss();
        Due.due("34: no VOICE yet", x.act(0, 0, 1), 0);
        x.body(0);
        x.body(7);
        int[][] none = {{2, 0}, {-1, 0}, {50, 0}, {LEAST, 0}, {MOST, 0}, {1, 4}, {1, -1}, {1, LEAST}, {1, MOST}, {2, 4}};
        for (int[] no : none) {
            x.act(1, 3, 5);
            Due.due("42: ran", x.count(4), 14);
            Due.due("34: VOICE " + no[0] + ", ACT " + no[1], x.act(no[0], no[1], 5), 0);
            Due.due("42: no TRACE then", x.count(4), 0);
            Due.due("35: no TRACE then", x.trace(0), -1);
        }
        Due.due("34: the first VOICE, the first ACT", x.act(0, 0, 5), 5);
        Due.due("34: the last VOICE, the last ACT", x.act(1, 3, 5), 18 + (3 - 6) - (0 - 6) - 1);
    }

    private static void trace() {
        HereMiss x = new HereMiss();
        x.body(7);
        int[] due = {81, 2, 80, 10, 20, 1, 50, 11, 20, 1, 50, 11, 20, 1};
        x.act(0, 3, 9);
        for (int i = 0; i < due.length; i++) {
            Due.due("35: " + i, x.trace(i), due[i]);
        }
        for (int i : new int[] {-1, 14, 23, 24, LEAST, MOST}) {
            Due.due("35: " + i, x.trace(i), -1);
        }
        Due.due("42: all that ran", x.count(4), 14);
        x.act(0, 0, 9);
        Due.due("35: the last of two", x.trace(1), 1);
        Due.due("35: behind the two", x.trace(2), -1);
    }

    private static void keep() {
        HereMiss x = new HereMiss();
        for (int shelf = 0; shelf < 6; shelf++) {
            Due.due("36: nothing on " + shelf, x.keep(shelf, -1), 1);
            Due.due("36: a body that is none yet", x.keep(shelf, shelf), -1);
            x.body(shelf);
            Due.due("36: it is one now", x.keep(shelf, shelf), 1);
        }
        for (int shelf = 0; shelf < 6; shelf++) {
            Due.due("36: each holds its own", x.taken(shelf, shelf), shelf);
        }
        for (int shelf : new int[] {-1, 6, LEAST, MOST}) {
            Due.due("36: SHELF " + shelf, x.keep(shelf, -1), -1);
            Due.due("36: SHELF " + shelf, x.keep(shelf, 0), -1);
        }
        for (int body : new int[] {-2, 6, 50, LEAST, MOST}) {
            Due.due("36: body " + body, x.keep(0, body), -1);
        }
        Due.due("36: it is still there", x.taken(0, 0), 0);
    }

    private static void rows() {
        HereMiss x = new HereMiss();
        for (int shelf : new int[] {-1, 6, LEAST, MOST}) {
            Due.due("37: SHELF " + shelf, x.row(shelf, 0, 1), -1);
        }
        for (int sort : new int[] {-1, 5, LEAST, MOST}) {
            Due.due("37: sort " + sort, x.row(0, sort, 1), -1);
        }
        for (int n : new int[] {61, MOST}) {
            Due.due("37: n " + n, x.row(0, 0, n), -1);
        }
        for (int n : new int[] {-1, LEAST}) {
            Due.due("37: n " + n, x.row(0, 4, n), -14);
            Due.due("37: BAD goes ahead of -14, SHELF", x.row(6, 0, n), -1);
            Due.due("37: BAD goes ahead of -14, sort", x.row(0, 5, n), -1);
        }
        Due.due("37: nothing is there yet", x.put(0, 0, 0), -11);
        for (int shelf = 0; shelf < 6; shelf++) {
            int sort = Math.min(shelf, 4);
            Due.due("37: 60", x.row(shelf, sort, 60), 1);
            Due.due("38: the last", x.put(shelf, 59, 1), 1);
            Due.due("38: behind it", x.put(shelf, 60, 1), -13);
            Due.due("37: 1", x.row(shelf, sort, 1), 1);
            Due.due("37: 0 at first", x.element(shelf, 0), 0);
            Due.due("38: behind it", x.put(shelf, 1, 1), -13);
            Due.due("37: 0", x.row(shelf, sort, 0), 1);
            Due.due("38: behind it", x.put(shelf, 0, 1), -13);
            Due.due("37: a row of none is a ROW", x.taken(shelf, 0), -12);
            Due.due("37: 60 anew", x.row(shelf, sort, 60), 1);
            Due.due("37: 0 at first again", x.element(shelf, 59), 0);
        }
    }

    private static void putAndElement() {
        HereMiss x = new HereMiss();
        x.body(2);
        x.keep(1, 0);
        x.row(2, 2, 5);
        x.row(3, 4, 0);
        int[][] calls = {{-1, 0, -1}, {6, 0, -1}, {LEAST, 0, -1}, {MOST, -1, -1}, {0, 0, -11}, {0, -1, -11}, {0, 60, -11},
            {1, 0, -12}, {1, -1, -12}, {1, 60, -12}, {2, -1, -13}, {2, 5, -13}, {2, 60, -13}, {2, LEAST, -13}, {2, MOST, -13},
            {3, 0, -13}, {3, -1, -13}, {2, 0, 1}, {2, 4, 1}};
        for (int[] c : calls) {
            Due.due("38: put(" + c[0] + ", " + c[1] + ", 7)", x.put(c[0], c[1], 7), c[2]);
            Due.due("39: element(" + c[0] + ", " + c[1] + ")", x.element(c[0], c[1]), c[2] == 1 ? 7 : VOID);
        }
        long[] due = {7, 0, 0, 0, 7};
        for (int i = 0; i < 5; i++) {
            Due.due("38: these alone, " + i, x.element(2, i), due[i]);
        }
    }

    private static void lowestBits() {
        long[][] puts = {
            {0, 127, 127}, {0, 128, -128}, {0, 255, -1}, {0, 256, 0}, {0, -128, -128}, {0, -129, 127},
            {1, 32767, 32767}, {1, 32768, -32768}, {1, 65535, -1}, {1, 65536, 0}, {1, -32768, -32768}, {1, -32769, 32767},
            {2, MOST, MOST}, {2, MOST + 1L, LEAST}, {2, (1L << 32) - 1, -1}, {2, 1L << 32, 0}, {2, LEAST - 1L, MOST},
            {3, Long.MAX_VALUE, Long.MAX_VALUE}, {3, VOID + 1, VOID + 1}, {3, VOID, VOID}, {3, 1L << 32, 1L << 32},
            {4, 0, 0}, {4, 1, 1}, {4, -1, 1}, {4, 2, 1}, {4, 256, 1}, {4, 1L << 32, 1}, {4, VOID, 1},
            {0, VOID, 0}, {1, VOID, 0}, {2, VOID, 0}, {0, Long.MAX_VALUE, -1}, {1, Long.MAX_VALUE, -1}, {2, Long.MAX_VALUE, -1},
        };
        for (long[] put : puts) {
            HereMiss x = new HereMiss();
            x.row(0, (int) put[0], 2);
            Due.due("38: sort " + put[0] + ", " + put[1], x.put(0, 0, put[1]), 1);
            Due.due("39: sort " + put[0] + ", " + put[1], x.element(0, 0), put[2]);
            x.shift(0, 0, 0, 1, 1);
            Due.due("40: sort " + put[0] + ", " + put[1], x.element(0, 1), put[2]);
        }
    }

    private static void shift() {
        HereMiss x = new HereMiss();
        x.body(0);
        x.keep(1, 0);
        for (int sort = 0; sort < 4; sort++) {
            x.row(2 + sort, sort, 3);
        }
        int[] shelves = {-1, 6, LEAST, MOST};
        for (int bad : shelves) {
            for (int good = 0; good < 6; good++) {
                Due.due("40: from SHELF " + bad, x.shift(bad, 0, good, 0, 1), -1);
                Due.due("40: to SHELF " + bad, x.shift(good, 0, bad, 0, 1), -1);
            }
        }
        for (int from = 0; from < 6; from++) {
            for (int to = 0; to < 6; to++) {
                int due = from == 0 || to == 0 ? -11 : from == 1 || to == 1 || from != to ? -12 : -13;
                String call = "40: from " + from + " to " + to;
                Due.due(call + ", no place", x.shift(from, -1, to, 0, 1), due);
                Due.due(call + ", no place there", x.shift(from, 0, to, 3, 1), due);
                Due.due(call + ", too many", x.shift(from, 0, to, 0, 4), due);
                Due.due(call + ", fewer than none", x.shift(from, 0, to, 0, -1), due);
                Due.due(call + ", none", x.shift(from, 0, to, 0, 0), due == -13 ? 0 : due);
                Due.due(call + ", all", x.shift(from, 0, to, 0, 3), due == -13 ? 3 : due);
            }
        }
    }

    private static void shiftPlaces() {
        int[] places = {LEAST, -2, -1, 0, 1, 2, 3, 4, 5, MOST};
        int[] sizes = {LEAST, -1, 0, 1, 2, 3, 4, 5, MOST};
        for (long i : places) {
            for (long j : places) {
                HereMiss x = new HereMiss();
                Due.row(x, 0, 2, 1, 2, 3);
                Due.row(x, 5, 2, 5, 6, 7, 8);
                for (long n : sizes) {
                    boolean stands = i >= 0 && j >= 0 && n >= 0 && i + n <= 3 && j + n <= 4;
                    String call = "40: shift(0, " + i + ", 5, " + j + ", " + n + ")";
                    Due.due(call, x.shift(0, (int) i, 5, (int) j, (int) n), stands ? n : -13);
                    for (int k = 0; k < 4; k++) {
                        boolean came = stands && k >= j && k < j + n;
                        Due.due(call + ", " + k, x.element(5, k), came ? k - j + i + 1 : 5 + k);
                        x.put(5, k, 5 + k);
                    }
                }
            }
        }
        HereMiss x = new HereMiss();
        x.row(0, 3, 60);
        for (int i = 0; i < 60; i++) {
            x.put(0, i, i);
        }
        Due.due("40: 59 onward in the same", x.shift(0, 0, 0, 1, 59), 59);
        Due.due("40: 60 onward in the same", x.shift(0, 0, 0, 1, 60), -13);
        for (int i = 0; i < 60; i++) {
            Due.due("40: as they all were before, " + i, x.element(0, i), Math.max(0, i - 1));
        }
        Due.due("40: 59 back", x.shift(0, 1, 0, 0, 59), 59);
        Due.due("40: the first of them", x.element(0, 0), 0);
        Due.due("40: the last of them", x.element(0, 58), 58);
        Due.due("40: the last stays", x.element(0, 59), 58);
        Due.due("40: all to themselves", x.shift(0, 0, 0, 0, 60), 60);
    }

    private static void taken() {
        HereMiss x = new HereMiss();
        x.keep(5, x.body(7));
        x.row(4, 0, 0);
        for (int k : new int[] {-1, 8, LEAST, MOST}) {
            Due.due("41: k " + k + " of a VOICE", x.taken(5, k), -1);
            Due.due("41: k " + k + " of a ROW", x.taken(4, k), -1);
            Due.due("41: k " + k + " of nothing", x.taken(3, k), -1);
        }
        for (int shelf : new int[] {-1, 6, LEAST, MOST}) {
            Due.due("41: SHELF " + shelf, x.taken(shelf, 0), -1);
        }
        int[] due = {7, 7, -12, -12, 7, -12, -12, 7};
        for (int k = 0; k < 8; k++) {
            Due.due("41: MISS for " + k, x.taken(5, k), due[k]);
            Due.due("41: a ROW for " + k, x.taken(4, k), -12);
            Due.due("41: nothing for " + k, x.taken(3, k), -11);
        }
    }

    private static void count() {
        HereMiss x = new HereMiss();
        for (int what : new int[] {-1, 5, LEAST, MOST}) {
            Due.due("42: what " + what, x.count(what), -1);
        }
        for (int what = 0; what < 5; what++) {
            Due.due("42: none at first, " + what, x.count(what), 0);
        }
        x.mend(0, 8, 31);
        x.undo();
        Due.due("42: what was undone may not be undone", x.count(2), 0);
        x.redo();
        Due.due("42: what was done again may be", x.count(2), 1);
        x.law();
        Due.due("42: a FAULT leaves no bytes", x.count(1), 0);
    }
}
