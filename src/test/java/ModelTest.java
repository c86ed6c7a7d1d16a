import java.util.Random;

/** Runs of 512 drawn calls, each asked of the program and of the model side by side. */
public final class ModelTest {
    private static final int RUNS = 260, CALLS = 512;

    private final Random draw;
    private final HereMiss x = new HereMiss();
    private final Model m = new Model();
    private final StringBuilder told = new StringBuilder();
    private int left = CALLS;

    private ModelTest(int run) {
        draw = new Random(run);
    }

    public static void main(String[] args) {
        for (int run = 1; run <= RUNS && !Due.anyWrong(); run++) {
            ModelTest test = new ModelTest(run);
            test.begin(run % 9);
            while (test.left > 0 && !Due.anyWrong()) {
                test.step();
            }
            if (Due.anyWrong()) {
                System.out.println("run " + run + ", its last calls:\n" + tail(test.told));
            }
        }
        Due.end();
    }

    private static String tail(StringBuilder told) {
        return told.substring(Math.max(0, told.length() - 4000));
    }

    private void same(String call, long got, long want) {
        left--;
        if (left < 0) {
            return; // what an object answers behind its last call is free
        }
        told.append(call).append(" = ").append(got).append('\n');
        Due.due(call, got, want);
    }

    private int any(int most) {
        return draw.nextInt(most + 1);
    }

    private boolean seldom() {
        return draw.nextInt(25) == 0;
    }

    /** From 0 to most; seldom one beside, or far off. */
    private int near(int most) {
        if (!seldom()) {
            return any(most);
        }
        int[] off = {-1, most + 1, -2, Integer.MAX_VALUE, Integer.MIN_VALUE, most + 2, 255, 1000};
        return off[any(off.length - 1)];
    }

    private int pupil() {
        int size = m.count(0);
        return seldom() || size == 0 ? near(8) : any(size - 1);
    }

    private int way() {
        return near(2);
    }

    private int tw() {
        return seldom() ? near(99) : any(9) * 10 + any(2);
    }

    private int looks() {
        return any(3) == 0 ? 0 : near(255) & (any(1) == 0 ? 255 : -1);
    }

    private void begin(int pupils) {
        for (int i = 0; i < pupils; i++) {
            int name = any(99) / (1 + any(20));
            int slow = 1 + any(98);
            same("pupil(" + name + ", " + slow + ")", x.pupil(name, slow), m.pupil(name, slow));
            mend(i, 3, any(3));
            mend(i, 4, any(255));
            mend(i, 7, any(2) == 0 ? 0 : any(150));
            mend(i, 5, any(3) * any(1));
            mend(i, 6, 9 - any(3) * any(1));
            mend(i, 2, any(16) - 1);
        }
    }

    private void step() {
        int what = any(99);
        if (what < 12) {
            mendOne();
        } else if (what < 35) {
            inThought();
        } else if (what < 45) {
            days();
        } else if (what < 55) {
            registers();
        } else if (what < 70) {
            inDeed();
        } else if (what < 76) {
            law();
        } else if (what < 85) {
            acts();
        } else {
            shelves();
        }
    }

    private void mend(int number, int what, int v) {
        same("mend(" + number + ", " + what + ", " + v + ")", x.mend(number, what, v), m.mend(number, what, v));
    }

    private void mendOne() {
        int[] most = {99, 99, 15, 7, 255, 9, 9, 999, 99, 99};
        int what = near(9);
        int v = what < 0 || what > 9 ? 1 : what == 7 && any(3) > 0 ? any(200) : near(most[what]);
        int number = what > 7 && !seldom() ? 0 : pupil();
        switch (any(5)) {
            case 0:
                same("undo()", x.undo(), m.undo());
                break;
            case 1:
                same("redo()", x.redo(), m.redo());
                break;
            default:
                mend(number, what, v);
        }
        number = pupil();
        what = near(10);
        same("of(" + number + ", " + what + ")", x.of(number, what), m.of(number, what));
        what = near(4);
        same("count(" + what + ")", x.count(what), m.count(what));
    }

    private void inThought() {
        int tw = tw();
        int looks = looks();
        int pupil = pupil();
        int lesson = near(9);
        int w = near(2);
        String to = "(" + tw + ", " + looks + ", ";
        switch (any(10)) {
            case 0: {
                int what = near(4);
                same("called" + to + what + ")", x.called(tw, looks, what), m.called(tw, looks, what));
                break;
            }
            case 1:
                same("answers" + to + pupil + ")", x.answers(tw, looks, pupil), m.answers(tw, looks, pupil));
                break;
            case 2:
                same("bestWay(" + lesson + ", " + w + ")", x.bestWay(lesson, w), m.bestWay(lesson, w));
                break;
            case 3:
                same("enough(" + tw + ", " + w + ")", x.enough(tw, w), m.enough(tw, w));
                break;
            case 4: {
                int what = near(1);
                same("next" + to + what + ")", x.next(tw, looks, what), m.next(tw, looks, what));
                break;
            }
            case 5: {
                int tenth = any(2) == 0 ? near(9999) : near(150);
                same("heads(" + lesson + ", " + tenth + ")", x.heads(lesson, tenth), m.heads(lesson, tenth));
                break;
            }
            case 6:
            case 7:
                sets(w);
                break;
            case 8:
                same("inTime(" + tw + ", " + pupil + ")", x.inTime(tw, pupil), m.inTime(tw, pupil));
                break;
            default: {
                int what = near(1);
                same("fire(" + lesson + ", " + what + ")", x.fire(lesson, what), m.fire(lesson, what));
            }
        }
    }

    /** Marks that some sets make, as a rule. */
    private void sets(int what) {
        int wm = seldom() ? near(29) : any(2) * 10 + any(Math.max(1, m.count(0)));
        int full = (1 << m.count(0)) - 1;
        int marks = any(4) == 0 ? near(255) : any(2) == 0 ? full : full & (any(255) | any(255) | any(255));
        String to = "(" + marks + ", " + wm;
        same("absent" + to + ", " + what + ")", x.absent(marks, wm, what), m.absent(marks, wm, what));
        same("ask" + to + ")", x.ask(marks, wm), m.ask(marks, wm));
    }

    private void days() {
        int way = way();
        switch (any(3)) {
            case 0: {
                int n = near(10);
                int what = near(2);
                same("day(" + n + ", " + way + ", " + what + ")", x.day(n, way, what), m.day(n, way, what));
                break;
            }
            case 1: {
                int k = near(7);
                same("order(" + way + ", " + k + ")", x.order(way, k), m.order(way, k));
                break;
            }
            case 2: {
                int what = near(1);
                same("partners(" + way + ", " + what + ")", x.partners(way, what), m.partners(way, what));
                break;
            }
            default: {
                int seed = draw.nextInt();
                int nw = seldom() ? near(502) : (1 + any(49)) * 10 + any(2);
                int ill = near(12);
                int what = near(1);
                same("drawn(" + seed + ", " + nw + ", " + ill + ", " + what + ")", x.drawn(seed, nw, ill, what),
                    m.drawn(seed, nw, ill, what));
            }
        }
    }

    /** A register written of real calls, as a rule, now and then of others; then it is read back. */
    private void registers() {
        int shelf = near(5);
        int way = way();
        int n = any(3) + any(1) * any(3);
        int pupil = pupil();
        if (any(3) > 0) {
            same("row", x.row(shelf, 1, n * 2), m.row(shelf, 1, n * 2));
            int bold = m.of(pupil, 3);
            boolean otherwise = any(1) == 0;
            if (otherwise) {
                mend(pupil, 3, any(7));
            }
            for (int i = 0; i < n; i++) {
                int lesson = seldom() && seldom() ? near(9) : any(9);
                int marks = seldom() && seldom() ? near(255) : m.called(lesson * 10 + (way < 0 || way > 2 ? 0 : way), 0, 0);
                put(shelf, i * 2, lesson);
                put(shelf, i * 2 + 1, marks);
            }
            if (otherwise) {
                mend(pupil, 3, bold);
            }
        }
        String to = "(" + shelf + ", " + way;
        same("judge" + to + ")", x.judge(shelf, way), m.judge(shelf, way));
        same("who" + to + ")", x.who(shelf, way), m.who(shelf, way));
        to = to + ", " + pupil;
        same("howBold" + to + ")", x.howBold(shelf, way, pupil), m.howBold(shelf, way, pupil));
        int what = near(1);
        same("forWhom" + to + ", " + what + ")", x.forWhom(shelf, way, pupil, what), m.forWhom(shelf, way, pupil, what));
    }

    private void inDeed() {
        int what = near(4);
        switch (any(9)) {
            case 0: {
                int pupil = pupil();
                same("punish(" + pupil + ")", x.punish(pupil), m.punish(pupil));
                break;
            }
            case 1:
                same("image()", x.image(), m.image());
                break;
            case 2:
                same("back()", x.back(), m.back());
                break;
            case 3:
            case 4: {
                int pupil = pupil();
                same("of(" + pupil + ", 10)", x.of(pupil, 10), m.of(pupil, 10));
                same("of(" + pupil + ", 3)", x.of(pupil, 3), m.of(pupil, 3));
                break;
            }
            case 5:
            case 6:
                same("led(" + what + ")", x.led(what), m.led(what));
                break;
            default: {
                int tw = tw();
                int looks = looks();
                same("call(" + tw + ", " + looks + ")", x.call(tw, looks), m.call(tw, looks));
            }
        }
    }

    private String expression(int deep) {
        String[] ends = {"s", "g", "k", "p", "w", "l", "0", "1", "2", "7", "10", "999", "9999"};
        String signs = "|&<=>++--**/%";
        switch (deep > 3 ? 0 : any(5)) {
            case 0:
            case 1:
                return ends[any(ends.length - 1)];
            case 2:
                return "(" + expression(deep + 1) + ")";
            case 3:
                return (any(1) == 0 ? "-" : "!") + expression(deep + 1);
            default:
                return expression(deep + 1) + signs.charAt(any(signs.length() - 1)) + expression(deep + 1);
        }
    }

    private void law() {
        StringBuilder text = new StringBuilder();
        for (int lines = any(2); lines >= 0; lines--) {
            text.append(any(1) == 0 ? "" : expression(0) + "?").append(expression(0)).append(lines > 0 ? ";" : "");
        }
        if (any(4) == 0) {
            String signs = "sgkpwl01239|&<=>+-*/%?;()! x\u0080";
            text.setCharAt(any(text.length() - 1), signs.charAt(any(signs.length() - 1)));
        } else if (any(5) == 0) {
            text.setLength(any(text.length() - 1));
        }
        if (text.length() > left - 3) {
            text.setLength(0);
        }
        for (int i = 0; i < text.length(); i++) {
            same("feed(" + text.charAt(i) + ")", x.feed(text.charAt(i)), m.feed(text.charAt(i)));
        }
        if (seldom()) {
            int letter = near(255);
            same("feed(" + letter + ")", x.feed(letter), m.feed(letter));
        }
        if (any(9) > 0) {
            same("law() of " + text, x.law(), m.law());
        }
        same("called(20, 2, 1)", x.called(20, 2, 1), m.called(20, 2, 1));
    }

    private void acts() {
        int body = m.count(3) == 0 ? 0 : near(m.count(3) - 1);
        switch (any(2)) {
            case 0: {
                int kind = near(7);
                same("body(" + kind + ")", x.body(kind), m.body(kind));
                break;
            }
            default: {
                int act = near(3);
                int v = any(1) == 0 ? any(20) : draw.nextInt();
                same("act(" + body + ", " + act + ", " + v + ")", x.act(body, act, v), m.act(body, act, v));
                int i = near(any(1) == 0 ? 5 : 23);
                same("trace(" + i + ")", x.trace(i), m.trace(i));
                same("count(4)", x.count(4), m.count(4));
            }
        }
    }

    private void put(int shelf, int i, long v) {
        same("put(" + shelf + ", " + i + ", " + v + ")", x.put(shelf, i, v), m.put(shelf, i, v));
    }

    private void shelves() {
        int shelf = near(5);
        int i = near(any(1) == 0 ? 3 : 60);
        switch (any(8)) {
            case 0: {
                int body = any(2) == 0 ? -1 : near(Math.max(0, m.count(3) - 1));
                same("keep(" + shelf + ", " + body + ")", x.keep(shelf, body), m.keep(shelf, body));
                break;
            }
            case 1: {
                int sort = near(4);
                int n = near(any(1) == 0 ? 9 : 60);
                same("row(" + shelf + ", " + sort + ", " + n + ")", x.row(shelf, sort, n), m.row(shelf, sort, n));
                break;
            }
            case 2:
            case 3:
                put(shelf, i, any(1) == 0 ? any(400) - 150 : draw.nextLong());
                break;
            case 4:
            case 5:
                same("element(" + shelf + ", " + i + ")", x.element(shelf, i), m.element(shelf, i));
                break;
            case 6: {
                int other = any(1) == 0 ? shelf : near(5);
                int j = near(4);
                int n = near(5);
                same("shift(" + shelf + ", " + i + ", " + other + ", " + j + ", " + n + ")",
                    x.shift(shelf, i, other, j, n), m.shift(shelf, i, other, j, n));
                int at = any(8);
                same("element(" + other + ", " + at + ")", x.element(other, at), m.element(other, at));
                break;
            }
            case 7: {
                int k = near(7);
                same("taken(" + shelf + ", " + k + ")", x.taken(shelf, k), m.taken(shelf, k));
                break;
            }
            default:
                newPupils(shelf);
        }
    }

    private void newPupils(int shelf) {
        if (any(1) == 0) {
            int name = near(99);
            int slow = near(99);
            same("pupil(" + name + ", " + slow + ")", x.pupil(name, slow), m.pupil(name, slow));
            return;
        }
        if (any(2) > 0) {
            same("row(" + shelf + ", 0, 8)", x.row(shelf, 0, 8), m.row(shelf, 0, 8));
            for (int i = 0; i < 8; i++) {
                put(shelf, i, any(9) == 0 ? any(255) - 128 : any(17) - 1);
            }
        }
        int i = near(3);
        int n = near(2);
        same("pupils(" + shelf + ", " + i + ", " + n + ")", x.pupils(shelf, i, n), m.pupils(shelf, i, n));
    }
}
