/** Promises 33 to 42: voices and their acts, shelves, how many. */
public final class ShelvesTest {
    private static final long VOID = Long.MIN_VALUE;

    public static void main(String[] args) {
        body();
        act();
        actsThatAreNone();
        trace();
        keep();
        row();
        put();
        element();
        shift();
        shiftRefused();
        taken();
        count();
        Due.end();
    }

    private static void body() {
        HereMiss x = new HereMiss();
        Due.due("33: -1", x.body(-1), -1);
        Due.due("33: 8", x.body(8), -1);
        for (int i = 0; i < 50; i++) {
            Due.due("33: number", x.body(i % 8), i);
        }
        Due.due("33: full", x.body(0), -3);
        Due.due("33: bad goes before full", x.body(8), -1);
        Due.due("33: fifty", x.count(3), 50);
        Due.due("33: the last one's number", x.act(49, 0, 1), 1 + 49 + 3);
    }

    /** The acts of a voice with x, and the bodies that ran, one behind the other. */
    private static void acts(int kind, int act, int v, int due, int... bodies) {
        HereMiss x = new HereMiss();
        for (int i = 0; i < 5; i++) {
            x.body(0);
        }
        int number = x.body(kind);
        String call = "34: kind " + kind + ", act " + act;
        Due.due(call, x.act(number, act, v), due);
        Due.due(call + ", how many ran", x.count(4), bodies.length);
        for (int i = 0; i < bodies.length; i++) {
            Due.due("35: of " + call + ", " + i, x.trace(i), bodies[i]);
        }
        Due.due("35: of " + call + ", behind", x.trace(bodies.length), -1);
    }

    /** With number 5 and x 7: says 12, marks(7) 2, marks(1) 4, marks(2) 7, says(2) 7, or what becomes of it. */
    private static void act() {
        acts(0, 0, 7, 12, 1);
        acts(0, 1, 7, 24, 10, 1);
        acts(0, 2, 7, 2, 11);
        acts(0, 3, 7, 20, 2, 10, 1, 11);
        acts(1, 0, 7, 15, 20, 1);
        acts(1, 1, 7, 30, 10, 20, 1);
        acts(1, 2, 7, 2, 11);
        acts(1, 3, 7, 26, 2, 10, 20, 1, 11);
        acts(2, 0, 7, 12, 1);
        acts(2, 1, 7, -24, 30, 10, 1);
        acts(2, 2, 7, 2, 11);
        acts(2, 3, 7, -28, 2, 30, 10, 1, 11);
        acts(3, 0, 7, 12, 1);
        acts(3, 1, 7, -26, 41, 30, 10, 1);
        acts(3, 2, 7, 6, 40, 11);
        acts(3, 3, 7, -38, 2, 41, 30, 10, 1, 40, 11);
        acts(4, 0, 7, 15, 20, 1);
        acts(4, 1, 7, 30, 10, 20, 1);
        acts(4, 2, 7, 2 - 10, 50, 11, 20, 1);
        acts(4, 3, 7, 30 - (4 - 10), 2, 10, 20, 1, 50, 11, 20, 1);
        acts(5, 0, 7, 12, 1);
        acts(5, 1, 7, -26, 41, 30, 10, 1);
        acts(5, 2, 7, 6, 40, 11);
        acts(5, 3, 7, -38 ^ 5, 60, 2, 41, 30, 10, 1, 40, 11);
        acts(6, 0, 7, 24, 70, 1);
        acts(6, 1, 7, 48, 10, 70, 1);
        acts(6, 2, 7, 2, 11);
        acts(6, 3, 7, 44, 2, 10, 70, 1, 11);
        acts(7, 0, 7, 15, 20, 1);
        acts(7, 1, 7, 30 + 7 - 10, 80, 10, 20, 1, 50, 11, 20, 1);
        acts(7, 2, 7, 2 - 10, 50, 11, 20, 1);
        acts(7, 3, 7, 27 + 6 - 1, 81, 2, 80, 10, 20, 1, 50, 11, 20, 1, 50, 11, 20, 1);
        acts(0, 1, Integer.MAX_VALUE, (Integer.MAX_VALUE + 5) * 2, 10, 1);
        acts(3, 1, Integer.MAX_VALUE, -((Integer.MIN_VALUE + 5) * 2), 41, 30, 10, 1);
        acts(3, 2, Integer.MIN_VALUE, (Integer.MIN_VALUE ^ 5) * 3, 40, 11);
    }

    private static void actsThatAreNone() {
        HereMiss x = new HereMiss();
        Due.due("34: no voice at all", x.act(0, 0, 5), 0);
        x.body(0);
        int[][] none = {{1, 0}, {-1, 0}, {0, 4}, {0, -1}, {Integer.MAX_VALUE, 0}, {0, Integer.MIN_VALUE}};
        for (int[] call : none) {
            Due.due("34: says", x.act(0, 0, 9), 9);
            Due.due("34: one ran", x.count(4), 1);
            Due.due("34: none", x.act(call[0], call[1], 5), 0);
            Due.due("34: no TRACE then", x.count(4), 0);
            Due.due("35: no TRACE then", x.trace(0), -1);
        }
    }

    private static void trace() {
        HereMiss x = new HereMiss();
        x.body(7);
        Due.due("35: none yet", x.trace(0), -1);
        x.act(0, 3, 0);
        Due.due("35: -1", x.trace(-1), -1);
        Due.due("35: 0", x.trace(0), 81);
        Due.due("35: the last", x.trace(13), 1);
        Due.due("35: behind", x.trace(14), -1);
        Due.due("35: far behind", x.trace(Integer.MAX_VALUE), -1);
        Due.due("35: of the latest act alone", x.act(0, 0, 0), 3);
        Due.due("35: the latest", x.trace(0), 20);
        Due.due("35: not of the one ahead", x.trace(2), -1);
    }

    private static void keep() {
        HereMiss x = new HereMiss();
        Due.due("36: no such body", x.keep(0, 0), -1);
        x.body(3);
        Due.due("36: a voice", x.keep(0, 0), 1);
        Due.due("36: it is there", x.taken(0, 0), 3);
        Due.due("36: body 1", x.keep(0, 1), -1);
        Due.due("36: body -2", x.keep(0, -2), -1);
        Due.due("36: shelf -1", x.keep(-1, 0), -1);
        Due.due("36: shelf 6", x.keep(6, -1), -1);
        Due.due("36: still there", x.taken(0, 0), 3);
        Due.due("36: nothing", x.keep(0, -1), 1);
        Due.due("36: nothing is there", x.taken(0, 0), -11);
        x.row(5, 3, 2);
        Due.due("36: in place of a row", x.keep(5, 0), 1);
        Due.due("36: no row any more", x.put(5, 0, 1), -12);
    }

    private static void row() {
        HereMiss x = new HereMiss();
        Due.due("37: shelf -1", x.row(-1, 0, 1), -1);
        Due.due("37: shelf 6", x.row(6, 0, 1), -1);
        Due.due("37: sort -1", x.row(0, -1, 1), -1);
        Due.due("37: sort 5", x.row(0, 5, 1), -1);
        Due.due("37: above 60", x.row(0, 0, 61), -1);
        Due.due("37: below 0", x.row(0, 0, -1), -14);
        Due.due("37: far below 0", x.row(0, 4, Integer.MIN_VALUE), -14);
        Due.due("37: bad goes before -14", x.row(0, 5, -1), -1);
        Due.due("37: bad shelf goes before -14", x.row(6, 0, -1), -1);
        Due.due("37: nothing came of it", x.put(0, 0, 1), -11);
        for (int sort = 0; sort < 5; sort++) {
            Due.due("37: sixty", x.row(sort, sort, 60), 1);
            for (int i = 0; i < 60; i++) {
                Due.due("37: 0 at first", x.element(sort, i), 0);
            }
            x.put(sort, 59, 1);
            Due.due("37: none", x.row(sort, sort, 0), 1);
            Due.due("37: no place", x.put(sort, 0, 1), -13);
            Due.due("37: sixty anew", x.row(sort, sort, 60), 1);
            Due.due("37: 0 again", x.element(sort, 59), 0);
        }
        x.body(0);
        x.keep(0, 0);
        Due.due("37: in place of a voice", x.row(0, 2, 1), 1);
        Due.due("37: no voice any more", x.taken(0, 0), -12);
        Due.due("37: a refused one changes nothing", x.row(0, 1, -1), -14);
        Due.due("37: it is still there", x.put(0, 0, 1 << 20), 1);
        Due.due("37: of the same sort", x.element(0, 0), 1 << 20);
    }

    private static void put() {
        HereMiss x = new HereMiss();
        Due.due("38: shelf -1", x.put(-1, 0, 1), -1);
        Due.due("38: shelf 6", x.put(6, 0, 1), -1);
        Due.due("38: nothing", x.put(0, -1, 1), -11);
        x.body(0);
        x.keep(0, 0);
        Due.due("38: a voice", x.put(0, 0, 1), -12);
        Due.due("38: -12 goes before -13", x.put(0, -1, 1), -12);
        x.row(0, 0, 3);
        Due.due("38: -1", x.put(0, -1, 1), -13);
        Due.due("38: 3", x.put(0, 3, 1), -13);
        Due.due("38: 60", x.put(0, Integer.MAX_VALUE, 1), -13);
        Due.due("38: 0", x.put(0, 0, 1), 1);
        Due.due("38: 2", x.put(0, 2, 1), 1);
    }

    private static void element() {
        HereMiss x = new HereMiss();
        long[] put = {127, 128, 255, -129, 32768, 65535, 1L << 31, (1L << 32) + 5, Long.MIN_VALUE, Long.MAX_VALUE, 256, 0};
        for (long v : put) {
            long[] due = {(byte) v, (short) v, (int) v, v, v != 0 ? 1 : 0};
            for (int sort = 0; sort < 5; sort++) {
                x.row(0, sort, 2);
                x.put(0, 1, v);
                Due.due("39: sort " + sort + " of " + v, x.element(0, 1), due[sort]);
                Due.due("39: the other place", x.element(0, 0), 0);
            }
        }
        Due.due("39: 128 as a byte", x.row(0, 0, 1) + x.put(0, 0, 128) + x.element(0, 0), 2 - 128);
        Due.due("39: shelf -1", x.element(-1, 0), VOID);
        Due.due("39: shelf 6", x.element(6, 0), VOID);
        Due.due("39: nothing", x.element(1, 0), VOID);
        Due.due("39: -1", x.element(0, -1), VOID);
        Due.due("39: behind", x.element(0, 1), VOID);
        x.body(0);
        x.keep(0, 0);
        Due.due("39: a voice", x.element(0, 0), VOID);
    }

    private static void elements(HereMiss x, String of, int shelf, long... due) {
        for (int i = 0; i < due.length; i++) {
            Due.due("40: " + of + ", " + i, x.element(shelf, i), due[i]);
        }
    }

    private static void shift() {
        HereMiss x = new HereMiss();
        Due.row(x, 0, 2, 1, 2, 3, 4, 5);
        Due.due("40: onward in the same", x.shift(0, 0, 0, 2, 3), 3);
        elements(x, "as they were before", 0, 1, 2, 1, 2, 3);
        Due.row(x, 0, 2, 1, 2, 3, 4, 5);
        Due.due("40: back in the same", x.shift(0, 1, 0, 0, 4), 4);
        elements(x, "as they were before", 0, 2, 3, 4, 5, 5);
        Due.row(x, 1, 2, 9, 9, 9);
        Due.due("40: to another one", x.shift(0, 1, 1, 0, 2), 2);
        elements(x, "these alone", 1, 3, 4, 9);
        elements(x, "where they came from", 0, 2, 3, 4, 5, 5);
        Due.due("40: none", x.shift(0, 5, 1, 3, 0), 0);
        elements(x, "none", 1, 3, 4, 9);
        Due.due("40: all", x.shift(1, 0, 0, 2, 3), 3);
        elements(x, "all", 0, 2, 3, 3, 4, 9);
    }

    private static void shiftRefused() {
        HereMiss x = new HereMiss();
        x.body(0);
        Due.row(x, 0, 2, 1, 2, 3);
        Due.row(x, 1, 3, 1, 2, 3);
        Due.row(x, 3, 2, 7, 8);
        x.keep(2, 0);
        int[][] calls = {
            {-1, 0, 0, 0, 1, -1}, {0, 0, 6, 0, 1, -1}, {6, 0, 4, 0, 1, -1}, {4, 0, 6, 0, 1, -1}, {4, 0, 0, 0, 1, -11},
            {0, 0, 4, 0, 1, -11}, {2, 0, 4, 0, 1, -11}, {4, 0, 2, 0, 1, -11}, {0, 9, 4, 0, 1, -11}, {4, 0, 4, 0, 0, -11},
            {0, 0, 2, 0, 1, -12}, {2, 0, 0, 0, 1, -12}, {2, 0, 2, 0, 0, -12}, {0, 0, 1, 0, 1, -12}, {1, 0, 0, 0, 1, -12},
            {0, -1, 1, 0, 1, -12}, {0, -1, 3, 0, 1, -13}, {0, 0, 3, -1, 1, -13}, {0, 3, 3, 0, 1, -13}, {0, 0, 3, 2, 1, -13},
            {0, 0, 3, 0, 3, -13}, {0, 2, 3, 0, 2, -13}, {0, 0, 3, 0, -1, -13}, {0, 4, 3, 0, 0, -13}, {0, 0, 3, 3, 0, -13},
            {0, 1, 3, 0, Integer.MAX_VALUE, -13}, {0, Integer.MAX_VALUE, 3, 0, 1, -13}, {0, 0, 3, Integer.MAX_VALUE, 1, -13},
            {0, 0, 3, 0, Integer.MIN_VALUE, -13}, {0, Integer.MIN_VALUE, 3, 0, 1, -13}, {3, 0, 0, 0, 3, -13},
        };
        for (int[] c : calls) {
            String call = "40: shift(" + c[0] + ", " + c[1] + ", " + c[2] + ", " + c[3] + ", " + c[4] + ")";
            Due.due(call, x.shift(c[0], c[1], c[2], c[3], c[4]), c[5]);
        }
        elements(x, "nothing is changed", 0, 1, 2, 3);
        elements(x, "nothing is changed", 3, 7, 8);
    }

    private static void taken() {
        int[][] under = {{0}, {1, 0}, {2, 0}, {3, 2, 0}, {4, 1, 0}, {5, 3, 2, 0}, {6, 0}, {7, 4, 1, 0}};
        HereMiss x = new HereMiss();
        for (int kind = 0; kind < 8; kind++) {
            x.keep(3, x.body(kind));
            for (int k = 0; k < 8; k++) {
                int due = -12;
                for (int above : under[kind]) {
                    due = above == k ? kind : due;
                }
                Due.due("41: kind " + kind + " for " + k, x.taken(3, k), due);
            }
        }
        Due.due("41: shelf -1", x.taken(-1, 0), -1);
        Due.due("41: shelf 6", x.taken(6, 0), -1);
        Due.due("41: k -1", x.taken(3, -1), -1);
        Due.due("41: k 8", x.taken(3, 8), -1);
        Due.due("41: nothing", x.taken(0, 0), -11);
        Due.due("41: bad goes before -11", x.taken(0, 8), -1);
        x.row(3, 0, 4);
        Due.due("41: a row", x.taken(3, 0), -12);
    }

    private static void count() {
        HereMiss x = new HereMiss();
        Due.due("42: -1", x.count(-1), -1);
        Due.due("42: 5", x.count(5), -1);
        x.pupil(1, 1);
        x.pupil(1, 1);
        Due.due("42: PUPILS", x.count(0), 2);
        x.feed('s');
        x.feed('+');
        x.feed('g');
        Due.due("42: bytes", x.count(1), 3);
        for (int i = 1; i <= 4; i++) {
            x.mend(0, 7, i);
        }
        Due.due("42: changes", x.count(2), 4);
        x.undo();
        Due.due("42: changes still", x.count(2), 3);
        x.redo();
        Due.due("42: changes again", x.count(2), 4);
        for (int i = 0; i < 5; i++) {
            x.body(7);
        }
        Due.due("42: BODIES", x.count(3), 5);
        x.act(1, 3, 1);
        Due.due("42: bodies that ran", x.count(4), 14);
        x.act(1, 0, 1);
        Due.due("42: in the latest", x.count(4), 2);
    }
}
