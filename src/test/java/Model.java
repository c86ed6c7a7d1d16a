import java.util.ArrayList;
import java.util.HashMap;
import java.util.List;
import java.util.Map;
import java.util.function.IntFunction;

/**
 * The document once more, in the Java library's own means and by other ways than the program's
 * where there are some: a law is split, not compiled; what is best is found by trying all; rows
 * are Java's arrays; acts are Java's methods. ModelTest runs both side by side.
 */
final class Model {
    static final int BAD = -1, NOT = -2, FULL = -3, STATE = -5, VOID = -2000000000;
    private static final int[] LEAST = {0, 1, -1, 0, 0, 0, 0, 0, 0, 0};
    private static final int[] MOST = {99, 99, 15, 7, 255, 9, 9, 999, 99, 99};

    static final class Pupil {
        final int[] n;
        int marks;

        Pupil(int name, int slow, int seat) {
            n = new int[] {name, slow, seat, 0, 0, 0, 9, 0};
        }
    }

    static final class Result {
        int marked, tenths, falsely, missed, helpers, caught;
        int[] who = new int[8];
    }

    private final List<Pupil> all = new ArrayList<>();
    private final int[] room = {30, 4};
    private String tape = "";
    private String law = null;
    /** Splitting takes long, and the same names come again. */
    private final Map<String, Integer> worked = new HashMap<>();
    private final int[] led = new int[5];
    private int[] imageLed = null;
    private List<int[]> imageOnes = null;
    private final List<int[]> undone = new ArrayList<>();
    private final List<int[]> changes = new ArrayList<>();
    private final List<ModelVoices.Voice> bodies = new ArrayList<>();
    private final ModelVoices.Trace trace = new ModelVoices.Trace();
    private final Object[] shelves = new Object[6];

    private static boolean in(int v, int a, int b) {
        return a <= v && v <= b;
    }

    private boolean one(int pupil) {
        return in(pupil, 0, all.size() - 1);
    }

    private static boolean tw(int tw) {
        return in(tw, 0, 99) && tw % 10 < 3;
    }

    // ---- pupils

    int pupil(int name, int slow) {
        if (!in(name, 0, 99) || !in(slow, 1, 99)) {
            return BAD;
        }
        if (all.size() == 8) {
            return FULL;
        }
        all.add(new Pupil(name, slow, -1));
        return all.size() - 1;
    }

    int pupils(int shelf, int i, int n) {
        if (!in(shelf, 0, 5) || !in(n, 1, 8)) {
            return BAD;
        }
        Object held = shelves[shelf];
        if (held != null && !(held instanceof byte[])) {
            return -12;
        }
        int came = 0;
        try {
            byte[] row = (byte[]) held;
            while (came < n) {
                int at = i + 3 * came;
                int seat = row[at + 2];
                if (!in(seat, -1, 15) || pupil(row[at], row[at + 1]) < 0) {
                    break;
                }
                all.get(all.size() - 1).n[2] = seat;
                came++;
            }
        } catch (NullPointerException | ArrayIndexOutOfBoundsException end) {
            return came;
        }
        return came;
    }

    private int[] slot(int number, int what) {
        if (in(what, 0, 7) && one(number)) {
            return all.get(number).n;
        }
        return in(what, 8, 9) && number == 0 ? room : null;
    }

    private static int place(int what) {
        return what < 8 ? what : what - 8;
    }

    int mend(int number, int what, int v) {
        int[] slot = slot(number, what);
        if (slot == null || !in(v, LEAST[what], MOST[what])) {
            return VOID;
        }
        int was = slot[place(what)];
        if (was != v) {
            slot[place(what)] = v;
            changes.add(new int[] {number, what, was, v});
            undone.clear();
            if (changes.size() > 40) {
                changes.remove(0);
            }
        }
        return was;
    }

    int of(int number, int what) {
        if (what == 10 && one(number)) {
            return all.get(number).marks;
        }
        int[] slot = slot(number, what);
        return slot == null ? VOID : slot[place(what)];
    }

    int feed(int letter) {
        if (!in(letter, 0, 255)) {
            return BAD;
        }
        if (tape.length() == 120) {
            return FULL;
        }
        tape += (char) letter;
        return tape.length();
    }

    int law() {
        int fault = ModelLaw.fault(tape);
        if (fault < 0) {
            law = tape;
            worked.clear();
        }
        tape = "";
        return fault < 0 ? 1 : -100 - fault;
    }

    // ---- calls in thought

    /** Who is there: a place in time and a pupil. */
    interface There {
        boolean is(int pupil, int tenth);
    }

    private int[] order(int way) {
        IntFunction<Integer> rank = i -> way == 0 ? all.get(i).n[0] : way == 1 ? i : all.get(i).n[2] < 0 ? 99 : all.get(i).n[2];
        List<Integer> order = new ArrayList<>();
        for (int i = 0; i < all.size(); i++) {
            order.add(i);
        }
        order.sort((a, b) -> rank.apply(a) - rank.apply(b));
        return order.stream().mapToInt(Integer::intValue).toArray();
    }

    private Result make(int way, int looks, There there) {
        Result r = new Result();
        int[] helped = new int[8];
        int p = 0;
        for (int one : order(way)) {
            boolean looked = (looks & 1 << one) != 0;
            int who = NOT;
            if (there.is(one, r.tenths)) {
                who = one;
            } else {
                for (int other = all.size() - 1; other >= 0; other--) {
                    Pupil o = all.get(other);
                    if (there.is(other, r.tenths) && (o.n[4] & 1 << one) != 0 && helped[other] < o.n[3]) {
                        who = other;
                    }
                }
                if (looked && who != NOT) {
                    r.caught++;
                    who = NOT;
                }
            }
            r.who[one] = who;
            if (who != NOT) {
                r.marked += 1 << one;
            }
            if (who != NOT && who != one) {
                r.falsely += 1 << one;
                r.helpers |= 1 << who;
                helped[who]++;
            }
            int s = who == NOT ? 0 : all.get(who).n[1];
            int k = who == NOT ? 0 : who == one ? 1 : 2;
            r.tenths += seconds(new int[] {s, room[0], k, p, way, looked ? 1 : 0});
            p++;
        }
        return r;
    }

    private int seconds(int[] sgkpwl) {
        if (law == null) {
            int s = sgkpwl[0] + (sgkpwl[2] == 2 ? 5 : 0) + (sgkpwl[2] == 0 ? sgkpwl[1] : 0) + 10 * sgkpwl[5];
            return s < 1 ? 1 : s;
        }
        return worked.computeIfAbsent(java.util.Arrays.toString(sgkpwl), key -> {
            int s = ModelLaw.answer(law, sgkpwl);
            return s < 1 ? 1 : s > 999 ? 999 : s;
        });
    }

    private boolean here(int i, int lesson) {
        return all.get(i).n[5] <= lesson && lesson <= all.get(i).n[6];
    }

    private Result lesson(int lesson, int way, int looks) {
        Result r = make(way, looks, (i, t) -> here(i, lesson) && all.get(i).n[7] <= t);
        for (int i = 0; i < all.size(); i++) {
            if (here(i, lesson) && (r.marked & 1 << i) == 0) {
                r.missed |= 1 << i;
            }
        }
        return r;
    }

    int called(int tw, int looks, int what) {
        if (!tw(tw) || !in(looks, 0, 255) || !in(what, 0, 4)) {
            return BAD;
        }
        Result r = lesson(tw / 10, tw % 10, looks);
        return new int[] {r.marked, r.tenths, r.falsely, r.missed, r.helpers}[what];
    }

    int answers(int tw, int looks, int pupil) {
        if (!tw(tw) || !in(looks, 0, 255) || !one(pupil)) {
            return BAD;
        }
        return lesson(tw / 10, tw % 10, looks).who[pupil];
    }

    int bestWay(int lesson, int what) {
        if (!in(lesson, 0, 9) || !in(what, 0, 2)) {
            return BAD;
        }
        long best = Long.MAX_VALUE;
        for (int way = 0; way < 3; way++) {
            Result r = lesson(lesson, way, 0);
            long wrong = Integer.bitCount(r.falsely) + Integer.bitCount(r.missed);
            best = Math.min(best, (wrong * 100000 + r.tenths) * 10 + way);
        }
        return (int) (what == 0 ? best % 10 : what == 1 ? best / 1000000 : best / 10 % 100000);
    }

    int enough(int tw, int what) {
        if (!tw(tw) || !in(what, 0, 2)) {
            return BAD;
        }
        for (int many = 0; many <= 8; many++) {
            for (int looks = 0; looks < 256; looks++) {
                if (Integer.bitCount(looks) == many && lesson(tw / 10, tw % 10, looks).falsely == 0) {
                    return what == 0 ? many : what == 1 ? looks : lesson(tw / 10, tw % 10, looks).tenths;
                }
            }
        }
        throw new IllegalStateException();
    }

    int next(int tw, int looks, int what) {
        if (!tw(tw) || !in(looks, 0, 255) || !in(what, 0, 1)) {
            return BAD;
        }
        int best = Integer.MAX_VALUE;
        for (int i = 0; i < all.size(); i++) {
            if ((looks & 1 << i) == 0) {
                best = Math.min(best, 10 * Integer.bitCount(lesson(tw / 10, tw % 10, looks | 1 << i).falsely) + i);
            }
        }
        return best == Integer.MAX_VALUE ? NOT : what == 0 ? best % 10 : best / 10;
    }

    int heads(int lesson, int tenth) {
        if (!in(lesson, 0, 9) || !in(tenth, 0, 9999)) {
            return BAD;
        }
        int heads = 0;
        for (int i = 0; i < all.size(); i++) {
            heads += here(i, lesson) && all.get(i).n[7] <= tenth ? 1 : 0;
        }
        return heads;
    }

    private List<Integer> sets(int marks, int wm) {
        List<Integer> sets = new ArrayList<>();
        for (int set = 0; set < 1 << all.size(); set++) {
            int there = set;
            if (Integer.bitCount(set) == wm % 10 && make(wm / 10, 0, (i, t) -> (there & 1 << i) != 0).marked == marks) {
                sets.add(set);
            }
        }
        return sets;
    }

    int absent(int marks, int wm, int what) {
        if (!in(marks, 0, 255) || !in(wm, 0, 29) || !in(what, 0, 2)) {
            return BAD;
        }
        List<Integer> sets = sets(marks, wm);
        if (what == 0) {
            return sets.size();
        }
        if (sets.isEmpty()) {
            return NOT;
        }
        int none = (1 << all.size()) - 1;
        for (int set : sets) {
            none &= ~set;
        }
        return what == 1 ? sets.get(0) : none;
    }

    int ask(int marks, int wm) {
        if (!in(marks, 0, 255) || !in(wm, 0, 29)) {
            return BAD;
        }
        List<Integer> sets = sets(marks, wm);
        int best = Integer.MAX_VALUE;
        for (int i = 0; i < all.size() && !sets.isEmpty(); i++) {
            int bit = 1 << i;
            int with = (int) sets.stream().filter(set -> (set & bit) != 0).count();
            best = Math.min(best, Math.max(with, sets.size() - with) * 10 + i);
        }
        return best == Integer.MAX_VALUE ? NOT : best % 10;
    }

    int inTime(int tw, int pupil) {
        if (!tw(tw) || !one(pupil)) {
            return BAD;
        }
        int was = all.get(pupil).n[7];
        int found = NOT;
        for (int late = 999; late >= 0 && found == NOT; late--) {
            all.get(pupil).n[7] = late;
            found = lesson(tw / 10, tw % 10, 0).who[pupil] == pupil ? late : NOT;
        }
        all.get(pupil).n[7] = was;
        return found;
    }

    int fire(int lesson, int what) {
        if (!in(lesson, 0, 9) || !in(what, 0, 1)) {
            return BAD;
        }
        int marked = lesson(lesson, 1, 0).marked;
        int bits = 0;
        for (int i = 0; i < all.size(); i++) {
            boolean isMarked = (marked & 1 << i) != 0;
            bits += (what == 0 ? isMarked && !here(i, lesson) : here(i, lesson) && !isMarked) ? 1 << i : 0;
        }
        return bits;
    }

    // ---- days, registers

    int day(int n, int way, int what) {
        if (!in(n, 0, 10) || !in(way, 0, 2) || !in(what, 0, 2)) {
            return BAD;
        }
        int sum = 0;
        for (int lesson = 0; lesson < n; lesson++) {
            Result r = lesson(lesson, way, 0);
            sum += new int[] {r.tenths, Integer.bitCount(r.falsely), all.size() * room[1]}[what];
        }
        return sum;
    }

    int order(int way, int k) {
        if (!in(way, 0, 2) || k < 0) {
            return BAD;
        }
        return k < all.size() ? order(way)[k] : NOT;
    }

    private int refusal(int shelf) {
        return shelves[shelf] == null ? -11 : shelves[shelf] instanceof short[] ? 0 : -12;
    }

    private int wrong(int shelf, int way) {
        short[] row = (short[]) shelves[shelf];
        for (int i = 0; i < row.length; i += 2) {
            if (i + 1 == row.length || !in(row[i], 0, 9) || lesson(row[i], way, 0).marked != row[i + 1]) {
                return i / 2;
            }
        }
        return NOT;
    }

    int judge(int shelf, int way) {
        if (!in(shelf, 0, 5) || !in(way, 0, 2)) {
            return BAD;
        }
        return refusal(shelf) != 0 ? refusal(shelf) : wrong(shelf, way);
    }

    /** For which values of one's number all is so. */
    private List<Integer> which(int shelf, int way, int pupil, int what, int most) {
        List<Integer> which = new ArrayList<>();
        int[] n = all.get(pupil).n;
        int was = n[what];
        for (int v = 0; v <= most; v++) {
            n[what] = v;
            if (wrong(shelf, way) == NOT) {
                which.add(v);
            }
        }
        n[what] = was;
        return which;
    }

    int who(int shelf, int way) {
        if (!in(shelf, 0, 5) || !in(way, 0, 2)) {
            return BAD;
        }
        int bits = refusal(shelf);
        for (int i = 0; i < all.size() && refusal(shelf) == 0; i++) {
            bits += which(shelf, way, i, 3, 0).isEmpty() ? 0 : 1 << i;
        }
        return bits;
    }

    int howBold(int shelf, int way, int pupil) {
        if (!in(shelf, 0, 5) || !in(way, 0, 2) || !one(pupil)) {
            return BAD;
        }
        if (refusal(shelf) != 0) {
            return refusal(shelf);
        }
        List<Integer> which = which(shelf, way, pupil, 3, 7);
        return which.isEmpty() ? NOT : which.get(0);
    }

    int forWhom(int shelf, int way, int pupil, int what) {
        if (!in(shelf, 0, 5) || !in(way, 0, 2) || !one(pupil) || !in(what, 0, 1)) {
            return BAD;
        }
        if (refusal(shelf) != 0) {
            return refusal(shelf);
        }
        List<Integer> which = which(shelf, way, pupil, 4, 255);
        return what == 0 ? which.size() : which.isEmpty() ? NOT : which.get(0);
    }

    int partners(int way, int what) {
        if (!in(way, 0, 2) || !in(what, 0, 1)) {
            return BAD;
        }
        int best = NOT;
        int most = 0;
        for (int a = 0; a < all.size(); a++) {
            for (int b = a + 1; b < all.size(); b++) {
                int times = 0;
                for (int lesson = 0; lesson < 10; lesson++) {
                    int[] who = lesson(lesson, way, 0).who;
                    times += (who[a] == b ? 1 : 0) + (who[b] == a ? 1 : 0);
                }
                if (times > most) {
                    most = times;
                    best = 10 * a + b;
                }
            }
        }
        return what == 0 ? best : most;
    }

    int drawn(int seed, int nw, int ill, int what) {
        if (nw < 10 || nw > 502 || nw % 10 > 2 || !in(ill, 0, 12) || !in(what, 0, 1)) {
            return BAD;
        }
        int z = seed;
        int sum = 0;
        for (int n = 0; n < nw / 10; n++) {
            boolean[] there = new boolean[8];
            for (int i = 0; i < all.size(); i++) {
                z = (int) (z * 1103515245L + 12345);
                there[i] = (z >>> 8) % 12 >= ill;
            }
            Result r = make(nw % 10, 0, (i, t) -> there[i]);
            sum += what == 0 ? Integer.bitCount(r.falsely) : r.tenths;
        }
        return sum;
    }

    // ---- in deed

    int call(int tw, int looks) {
        if (!tw(tw) || !in(looks, 0, 255)) {
            return BAD;
        }
        Result r = lesson(tw / 10, tw % 10, looks);
        led[0]++;
        led[1] += r.tenths;
        led[3] += r.caught;
        for (int i = 0; i < all.size(); i++) {
            if ((r.marked & 1 << i) != 0) {
                led[2]++;
                all.get(i).marks++;
            }
        }
        return r.marked;
    }

    int punish(int pupil) {
        if (!one(pupil)) {
            return BAD;
        }
        int was = all.get(pupil).n[3];
        all.get(pupil).n[3] = 0;
        led[4]++;
        return was;
    }

    int led(int what) {
        return in(what, 0, 4) ? led[what] : BAD;
    }

    int image() {
        imageLed = led.clone();
        imageOnes = new ArrayList<>();
        for (Pupil p : all) {
            imageOnes.add(new int[] {p.n[3], p.marks});
        }
        return led[0];
    }

    int back() {
        if (imageLed == null) {
            return STATE;
        }
        System.arraycopy(imageLed, 0, led, 0, 5);
        for (int i = 0; i < all.size(); i++) {
            if (i < imageOnes.size()) {
                all.get(i).n[3] = imageOnes.get(i)[0];
            }
            all.get(i).marks = i < imageOnes.size() ? imageOnes.get(i)[1] : 0;
        }
        return led[0];
    }

    int undo() {
        return move(changes, undone, 2);
    }

    int redo() {
        return move(undone, changes, 3);
    }

    private int move(List<int[]> from, List<int[]> to, int value) {
        if (from.isEmpty()) {
            return STATE;
        }
        int[] change = from.remove(from.size() - 1);
        slot(change[0], change[1])[place(change[1])] = change[value];
        to.add(change);
        return from.size();
    }

    // ---- acts, shelves

    int body(int kind) {
        if (!in(kind, 0, 7)) {
            return BAD;
        }
        if (bodies.size() == 50) {
            return FULL;
        }
        bodies.add(ModelVoices.ofKind(kind, bodies.size(), trace));
        return bodies.size() - 1;
    }

    int act(int body, int act, int x) {
        trace.numbers.clear();
        if (!in(body, 0, bodies.size() - 1) || !in(act, 0, 3)) {
            return 0;
        }
        ModelVoices.Voice v = bodies.get(body);
        return act == 0 ? v.says(x) : act == 1 ? v.hears(x) : act == 2 ? v.marks(x) : v.tells(x);
    }

    int trace(int i) {
        return in(i, 0, Math.min(24, trace.numbers.size()) - 1) ? trace.numbers.get(i) : BAD;
    }

    int keep(int shelf, int body) {
        if (!in(shelf, 0, 5) || !in(body, -1, bodies.size() - 1)) {
            return BAD;
        }
        shelves[shelf] = body < 0 ? null : bodies.get(body);
        return 1;
    }

    int row(int shelf, int sort, int n) {
        if (!in(shelf, 0, 5) || !in(sort, 0, 4) || n > 60) {
            return BAD;
        }
        try {
            shelves[shelf] = java.lang.reflect.Array.newInstance(
                new Class<?>[] {byte.class, short.class, int.class, long.class, boolean.class}[sort], n);
        } catch (NegativeArraySizeException below) {
            return -14;
        }
        return 1;
    }

    int put(int shelf, int i, long v) {
        if (!in(shelf, 0, 5)) {
            return BAD;
        }
        Object held = shelves[shelf];
        try {
            if (held instanceof byte[] row) {
                row[i] = (byte) v;
            } else if (held instanceof short[] row) {
                row[i] = (short) v;
            } else if (held instanceof int[] row) {
                row[i] = (int) v;
            } else if (held instanceof long[] row) {
                row[i] = v;
            } else if (held instanceof boolean[] row) {
                row[i] = v != 0;
            } else {
                return held == null ? -11 : -12;
            }
        } catch (ArrayIndexOutOfBoundsException none) {
            return -13;
        }
        return 1;
    }

    long element(int shelf, int i) {
        if (!in(shelf, 0, 5) || shelves[shelf] == null || shelves[shelf] instanceof ModelVoices.Voice) {
            return Long.MIN_VALUE;
        }
        Object held = shelves[shelf];
        try {
            return held instanceof boolean[] row ? (row[i] ? 1 : 0) : java.lang.reflect.Array.getLong(held, i);
        } catch (ArrayIndexOutOfBoundsException none) {
            return Long.MIN_VALUE;
        }
    }

    int shift(int shelf, int i, int other, int j, int n) {
        if (!in(shelf, 0, 5) || !in(other, 0, 5)) {
            return BAD;
        }
        try {
            System.arraycopy(shelves[shelf], i, shelves[other], j, n);
        } catch (NullPointerException none) {
            return -11;
        } catch (ArrayStoreException kind) {
            return -12;
        } catch (IndexOutOfBoundsException place) {
            return -13;
        }
        return n;
    }

    int taken(int shelf, int k) {
        if (!in(shelf, 0, 5) || !in(k, 0, 7)) {
            return BAD;
        }
        if (shelves[shelf] == null) {
            return -11;
        }
        try {
            return ((ModelVoices.Voice) ModelVoices.classOf(k).cast(shelves[shelf])).kind();
        } catch (ClassCastException other) {
            return -12;
        }
    }

    int count(int what) {
        return in(what, 0, 4)
            ? new int[] {all.size(), tape.length(), changes.size(), bodies.size(), trace.numbers.size()}[what] : BAD;
    }
}
