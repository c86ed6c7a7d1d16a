import java.util.Arrays;

/** A register that is called each lesson; ../shared/DOC.md says what every call promises. */
public final class HereMiss {
    public static final int BAD = -1, NOT = -2, FULL = -3, STATE = -5, VOID = -2000000000;

    private static final int MISSING = -11, OTHER_KIND = -12, NO_PLACE = -13, BELOW_ZERO = -14;
    private static final int MOST_PUPILS = 8, LESSONS = 10, WAYS = 3, ALL_BITS = 255, SHELVES = 6;
    private static final int BY_NUMBERS = 1, NOBODY = -1;

    private final Pupils pupils;
    private final Tape tape;
    private final Law law;
    private final Call call;
    private final Thought thought;
    private final Registers registers;
    private final Deeds deeds;
    private final Changes changes;
    private final Voices voices;
    private final Shelf[] shelves;

    public HereMiss() {
        pupils = new Pupils();
        tape = new Tape();
        law = new Law(pupils);
        call = new Call(pupils, law);
        thought = new Thought(pupils, call);
        registers = new Registers(call);
        deeds = new Deeds(pupils);
        changes = new Changes(pupils);
        voices = new Voices();
        shelves = new Shelf[SHELVES];
        for (int i = 0; i < SHELVES; i++) {
            shelves[i] = new Shelf();
        }
    }

    // ---- pupils

    public int pupil(int name, int slow) {
        if (!Pupils.fits(Pupils.NAME, name) || !Pupils.fits(Pupils.SLOW, slow)) {
            return BAD;
        }
        return pupils.add(name, slow, -1);
    }

    public int pupils(int shelf, int i, int n) {
        if (!isShelf(shelf) || !within(n, 1, MOST_PUPILS)) {
            return BAD;
        }
        Shelf from = shelves[shelf];
        if (from.isEmpty()) {
            return 0;
        }
        if (!from.isRowOf(Shelf.BYTES)) {
            return OTHER_KIND;
        }
        // A place that is not there is no fault of the call: the row ends at it, below 0, too.
        int came = 0;
        int place = i;
        while (came < n && from.has(place, 3) && comesFrom(from, place)) {
            came++;
            place += 3;
        }
        return came;
    }

    public int mend(int number, int what, int v) {
        if (!pupils.has(number, what) || !Pupils.fits(what, v)) {
            return VOID;
        }
        int was = pupils.get(number, what);
        if (was != v) {
            changes.add(number, what, was, v);
            pupils.set(number, what, v);
        }
        return was;
    }

    public int of(int number, int what) {
        if (what == Deeds.MARKS_OF_ONE) {
            return pupils.isOne(number) ? deeds.marksOf(number) : VOID;
        }
        return pupils.has(number, what) ? pupils.get(number, what) : VOID;
    }

    public int feed(int letter) {
        return within(letter, 0, 255) ? tape.add(letter) : BAD;
    }

    public int law() {
        int fault = tape.read();
        if (fault < 0) {
            law.take(tape);
        }
        tape.wipe();
        return fault < 0 ? 1 : -100 - fault;
    }

    // ---- calls in thought

    public int called(int tw, int looks, int what) {
        if (!isLessonAndWay(tw) || !isBits(looks) || !within(what, 0, 4)) {
            return BAD;
        }
        call.inLessonByWay(tw / 10, tw % 10, looks);
        switch (what) {
            case 0:
                return call.marked;
            case 1:
                return call.tenths;
            case 2:
                return call.falsely;
            case 3:
                return call.missed();
            default:
                return call.helpers;
        }
    }

    public int answers(int tw, int looks, int pupil) {
        if (!isLessonAndWay(tw) || !isBits(looks) || !pupils.isOne(pupil)) {
            return BAD;
        }
        call.inLessonByWay(tw / 10, tw % 10, looks);
        int who = call.answerer[pupil];
        return who == NOBODY ? NOT : who;
    }

    public int bestWay(int lesson, int what) {
        if (!isLesson(lesson) || !within(what, 0, 2)) {
            return BAD;
        }
        return thought.wayWithFewest(lesson, what);
    }

    public int enough(int tw, int what) {
        if (!isLessonAndWay(tw) || !within(what, 0, 2)) {
            return BAD;
        }
        return thought.fewestLooks(tw / 10, tw % 10, what);
    }

    public int next(int tw, int looks, int what) {
        if (!isLessonAndWay(tw) || !isBits(looks) || !within(what, 0, 1)) {
            return BAD;
        }
        call.load(tw % 10);
        call.inLesson(tw / 10);
        return thought.oneMoreLook(looks, what);
    }

    public int heads(int lesson, int tenth) {
        if (!isLesson(lesson) || !within(tenth, 0, 9999)) {
            return BAD;
        }
        call.inLesson(lesson);
        return call.howManyThere(tenth);
    }

    public int absent(int marks, int wm, int what) {
        if (!isBits(marks) || !within(wm, 0, WAYS * 10 - 1) || !within(what, 0, 2)) {
            return BAD;
        }
        thought.findSets(marks, wm / 10, wm % 10);
        if (what == 0) {
            return thought.sets;
        }
        if (thought.sets == 0) {
            return NOT;
        }
        return what == 1 ? thought.leastSet : thought.inNoSet();
    }

    public int ask(int marks, int wm) {
        if (!isBits(marks) || !within(wm, 0, WAYS * 10 - 1)) {
            return BAD;
        }
        thought.findSets(marks, wm / 10, wm % 10);
        return thought.evenestSplit();
    }

    public int inTime(int tw, int pupil) {
        if (!isLessonAndWay(tw) || !pupils.isOne(pupil)) {
            return BAD;
        }
        return thought.greatestLate(tw / 10, tw % 10, pupil);
    }

    public int fire(int lesson, int what) {
        if (!isLesson(lesson) || !within(what, 0, 1)) {
            return BAD;
        }
        call.inLessonByWay(lesson, BY_NUMBERS, 0);
        return what == 0 ? call.marked & ~call.here : call.missed();
    }

    // ---- days, registers

    public int day(int n, int way, int what) {
        if (!within(n, 0, LESSONS) || !isWay(way) || !within(what, 0, 2)) {
            return BAD;
        }
        if (what == 2) {
            return n * pupils.size * pupils.get(0, Pupils.COUNTS);
        }
        return thought.wholeDay(n, way, what == 1);
    }

    public int order(int way, int k) {
        if (!isWay(way) || k < 0) {
            return BAD;
        }
        if (k >= pupils.size) {
            return NOT;
        }
        call.load(way);
        return call.order[k];
    }

    public int judge(int shelf, int way) {
        int refusal = registerRefusal(shelf, way, true);
        if (refusal != 0) {
            return refusal;
        }
        call.load(way);
        return registers.firstWrong(shelves[shelf]);
    }

    public int who(int shelf, int way) {
        int refusal = registerRefusal(shelf, way, true);
        if (refusal != 0) {
            return refusal;
        }
        call.load(way);
        return registers.ifNotBold(shelves[shelf], pupils.size);
    }

    public int howBold(int shelf, int way, int pupil) {
        int refusal = registerRefusal(shelf, way, pupils.isOne(pupil));
        if (refusal != 0) {
            return refusal;
        }
        call.load(way);
        return registers.leastBold(shelves[shelf], pupil);
    }

    public int forWhom(int shelf, int way, int pupil, int what) {
        int refusal = registerRefusal(shelf, way, pupils.isOne(pupil) && within(what, 0, 1));
        if (refusal != 0) {
            return refusal;
        }
        call.load(way);
        return registers.setsOfFriends(shelves[shelf], pupil, what);
    }

    public int partners(int way, int what) {
        if (!isWay(way) || !within(what, 0, 1)) {
            return BAD;
        }
        return thought.mostAnsweringPair(way, what);
    }

    public int drawn(int seed, int nw, int ill, int what) {
        if (!within(nw, 10, 509) || !isWay(nw % 10) || !within(ill, 0, 12) || !within(what, 0, 1)) {
            return BAD;
        }
        call.load(nw % 10);
        return thought.mornings(seed, nw / 10, ill, what == 0);
    }

    // ---- in deed

    public int call(int tw, int looks) {
        if (!isLessonAndWay(tw) || !isBits(looks)) {
            return BAD;
        }
        call.inLessonByWay(tw / 10, tw % 10, looks);
        deeds.note(call);
        return call.marked;
    }

    public int punish(int pupil) {
        return pupils.isOne(pupil) ? deeds.makeMeek(pupil) : BAD;
    }

    public int led(int what) {
        return within(what, 0, 4) ? deeds.told(what) : BAD;
    }

    public int image() {
        return deeds.keepImage();
    }

    public int back() {
        return deeds.layBack();
    }

    public int undo() {
        return changes.takeBack();
    }

    public int redo() {
        return changes.doAgain();
    }

    // ---- acts, shelves

    public int body(int kind) {
        return within(kind, 0, Voices.KINDS - 1) ? voices.add(kind) : BAD;
    }

    public int act(int body, int act, int x) {
        return voices.perform(body, act, x);
    }

    public int trace(int i) {
        return voices.ranAt(i);
    }

    public int keep(int shelf, int body) {
        if (!isShelf(shelf) || body != NOBODY && !voices.isOne(body)) {
            return BAD;
        }
        shelves[shelf].holdVoice(body);
        return 1;
    }

    public int row(int shelf, int sort, int n) {
        if (!isShelf(shelf) || !within(sort, 0, Shelf.SORTS - 1) || n > Shelf.MOST) {
            return BAD;
        }
        if (n < 0) {
            return BELOW_ZERO;
        }
        shelves[shelf].holdRow(sort, n);
        return 1;
    }

    public int put(int shelf, int i, long v) {
        if (!isShelf(shelf)) {
            return BAD;
        }
        int refusal = shelves[shelf].refusalAt(i);
        if (refusal != 0) {
            return refusal;
        }
        shelves[shelf].set(i, v);
        return 1;
    }

    public long element(int shelf, int i) {
        if (!isShelf(shelf) || shelves[shelf].refusalAt(i) != 0) {
            return Long.MIN_VALUE;
        }
        return shelves[shelf].get(i);
    }

    public int shift(int shelf, int i, int other, int j, int n) {
        if (!isShelf(shelf) || !isShelf(other)) {
            return BAD;
        }
        Shelf from = shelves[shelf];
        Shelf to = shelves[other];
        if (from.isEmpty() || to.isEmpty()) {
            return MISSING;
        }
        if (!from.isRow() || !to.isRowOf(from.sort)) {
            return OTHER_KIND;
        }
        if (!from.has(i, n) || !to.has(j, n)) {
            return NO_PLACE;
        }
        System.arraycopy(from.elements, i, to.elements, j, n);
        return n;
    }

    public int taken(int shelf, int k) {
        if (!isShelf(shelf) || !within(k, 0, Voices.KINDS - 1)) {
            return BAD;
        }
        Shelf from = shelves[shelf];
        if (from.isEmpty()) {
            return MISSING;
        }
        int kind = from.isRow() ? NOBODY : voices.kindOf(from.voice);
        return Voices.isUnder(kind, k) ? kind : OTHER_KIND;
    }

    public int count(int what) {
        switch (what) {
            case 0:
                return pupils.size;
            case 1:
                return tape.fed;
            case 2:
                return changes.done;
            case 3:
                return voices.size;
            case 4:
                return voices.ran;
            default:
                return BAD;
        }
    }

    // ---- what the calls above share

    private static boolean within(int v, int least, int most) {
        return v >= least && v <= most;
    }

    private static boolean isLesson(int lesson) {
        return within(lesson, 0, LESSONS - 1);
    }

    private static boolean isWay(int way) {
        return within(way, 0, WAYS - 1);
    }

    private static boolean isLessonAndWay(int tw) {
        return within(tw, 0, LESSONS * 10 - 1) && isWay(tw % 10);
    }

    private static boolean isBits(int bits) {
        return within(bits, 0, ALL_BITS);
    }

    private static boolean isShelf(int shelf) {
        return within(shelf, 0, SHELVES - 1);
    }

    /** What a register on a shelf is refused with, ahead of which all else must be as said; 0: nothing. */
    private int registerRefusal(int shelf, int way, boolean asSaid) {
        if (!isShelf(shelf) || !isWay(way) || !asSaid) {
            return BAD;
        }
        return shelves[shelf].refusalAsRowOf(Shelf.SHORTS);
    }

    private static boolean holds(int bits, int one) {
        return (bits >> one & 1) == 1;
    }

    /** Whether the three from a place on is a pupil for whom there is room; then it came. */
    private boolean comesFrom(Shelf from, int place) {
        int name = (int) from.get(place);
        int slow = (int) from.get(place + 1);
        int seat = (int) from.get(place + 2);
        return Pupils.fits(Pupils.NAME, name) && Pupils.fits(Pupils.SLOW, slow)
            && Pupils.fits(Pupils.SEAT, seat) && pupils.add(name, slow, seat) >= 0;
    }

    /** The pupils' numbers, in the order of mend(), and behind them the room's two. */
    private static final class Pupils {
        static final int NAME = 0, SLOW = 1, SEAT = 2, BOLD = 3, FRIENDS = 4;
        static final int FROM = 5, TILL = 6, LATE = 7, GAP = 8, COUNTS = 9;
        static final int MOST_LATE = 999;
        private static final int EACH = 8;
        private static final int[] LEAST = {0, 1, -1, 0, 0, 0, 0, 0, 0, 0};
        private static final int[] MOST = {99, 99, 15, 7, 255, 9, 9, 999, 99, 99};

        private final int[] numbers = new int[MOST_PUPILS * EACH + 2];
        int size;
        /** Goes up with every number that is set, so that what was worked out from them is not used on. */
        int version;

        Pupils() {
            numbers[MOST_PUPILS * EACH] = 30;
            numbers[MOST_PUPILS * EACH + 1] = 4;
        }

        static boolean fits(int what, int v) {
            return within(what, NAME, COUNTS) && within(v, LEAST[what], MOST[what]);
        }

        int add(int name, int slow, int seat) {
            if (size >= MOST_PUPILS) {
                return FULL;
            }
            int one = size;
            size++;
            set(one, NAME, name);
            set(one, SLOW, slow);
            set(one, SEAT, seat);
            set(one, TILL, LESSONS - 1);
            return one;
        }

        boolean isOne(int number) {
            return within(number, 0, size - 1);
        }

        boolean has(int number, int what) {
            return within(what, NAME, LATE) ? within(number, 0, size - 1) : within(what, GAP, COUNTS) && number == 0;
        }

        int get(int number, int what) {
            return has(number, what) ? numbers[slot(number, what)] : 0;
        }

        void set(int number, int what, int v) {
            if (has(number, what)) {
                numbers[slot(number, what)] = v;
                version++;
            }
        }

        private static int slot(int number, int what) {
            return what < EACH ? number * EACH + what : MOST_PUPILS * EACH + what - EACH;
        }

        boolean isHere(int one, int lesson) {
            return lesson >= get(one, FROM) && lesson <= get(one, TILL);
        }

        /** What the names are put in order by, of like ones by numbers. */
        int rank(int one, int way) {
            if (way == 0) {
                return get(one, NAME);
            }
            if (way == BY_NUMBERS) {
                return one;
            }
            int seat = get(one, SEAT);
            return seat < 0 ? Integer.MAX_VALUE : seat;
        }
    }

    /** The tape, and how a text on it is read: into codes, each operator behind what it works on. */
    private static final class Tape {
        static final int MOST = 120;
        /** A byte yields one code at most, and so does the end of the text. */
        static final int MOST_CODES = MOST + 1;
        static final int NEGATED = '~', IF = '?', LINE_END = ';';
        private static final int MOST_OPEN = 6, MOST_DIGITS = 4, END = -1;
        private static final int NO_SIGN = -1, LOOSEST = 0, COMPARISON = 2, CLOSEST = 4;

        private final int[] letters = new int[MOST];
        final int[] codes = new int[MOST_CODES];
        int fed;
        int size;
        private int place;

        int add(int letter) {
            if (fed >= MOST) {
                return FULL;
            }
            letters[fed] = letter;
            fed++;
            return fed;
        }

        void wipe() {
            fed = 0;
        }

        /** The text's FAULT; below 0: it has none. */
        int read() {
            place = 0;
            size = 0;
            boolean goesOn = line();
            while (goesOn && place < fed && letter() == ';') {
                place++;
                goesOn = line();
            }
            return goesOn && place == fed ? -1 : place;
        }

        private int letter() {
            return place < fed ? letters[place] : END;
        }

        private boolean skip(int letter) {
            if (letter() != letter) {
                return false;
            }
            place++;
            return true;
        }

        /** A number's code is itself, that of a sign its letter below 0. */
        private void emit(int code) {
            if (size < MOST_CODES) {
                codes[size] = code;
                size++;
            }
        }

        private boolean line() {
            if (!part(LOOSEST, 0)) {
                return false;
            }
            if (skip('?')) {
                emit(-IF);
                if (!part(LOOSEST, 0)) {
                    return false;
                }
            }
            emit(-LINE_END);
            return true;
        }

        /** How closely a sign between two parts binds them; NO_SIGN: it is none. */
        private static int bond(int sign) {
            switch (sign) {
                case '|':
                    return LOOSEST;
                case '&':
                    return 1;
                case '<':
                case '=':
                case '>':
                    return COMPARISON;
                case '+':
                case '-':
                    return 3;
                case '*':
                case '/':
                case '%':
                    return CLOSEST;
                default:
                    return NO_SIGN;
            }
        }

        // The two below are false where the text does not go on, and place is its fault then.

        /** Parts of a closer bond, joined by signs of this one; a comparison joins two alone. */
        private boolean part(int bond, int open) {
            if (bond > CLOSEST) {
                return operand(open);
            }
            if (!part(bond + 1, open)) {
                return false;
            }
            boolean mayJoin = true;
            while (mayJoin && place < fed && bond(letter()) == bond) {
                int sign = letter();
                place++;
                if (!part(bond + 1, open)) {
                    return false;
                }
                emit(-sign);
                mayJoin = bond != COMPARISON;
            }
            return true;
        }

        private boolean operand(int open) {
            int sign = letter();
            if (isDigit(sign)) {
                number();
                return true;
            }
            if (Law.isName(sign)) {
                place++;
                emit(-sign);
                return true;
            }
            if (sign != '(' && sign != '!' && sign != '-' || open >= MOST_OPEN) {
                return false;
            }
            place++;
            if (sign == '(') {
                return part(LOOSEST, open + 1) && skip(')');
            }
            if (!operand(open + 1)) {
                return false;
            }
            emit(sign == '-' ? -NEGATED : -sign);
            return true;
        }

        private static boolean isDigit(int sign) {
            return within(sign, '0', '9');
        }

        private void number() {
            int value = 0;
            for (int digits = 0; digits < MOST_DIGITS && isDigit(letter()); digits++) {
                value = value * 10 + letter() - '0';
                place++;
            }
            emit(value);
        }
    }

    /** How many tenths a name takes. */
    private static final class Law {
        private static final int MOST_TENTHS = 999;
        private static final int S = 0, G = 1, K = 2, P = 3, W = 4, L = 5, NAMES = 6;

        private final Pupils pupils;
        private final int[] codes = new int[Tape.MOST_CODES];
        private int size;
        private final int[] names = new int[NAMES];
        private final int[] stack = new int[Tape.MOST_CODES];
        private final int[] slow = new int[MOST_PUPILS];
        /** What names took so far, 0 where it is not known: a question makes up to thousands of calls. */
        private final int[] known = new int[WAYS * MOST_PUPILS * (MOST_PUPILS + 1) * 2];
        private int knownOf = -1;

        Law(Pupils pupils) {
            this.pupils = pupils;
        }

        static boolean isName(int sign) {
            return sign == 's' || sign == 'g' || sign == 'k' || sign == 'p' || sign == 'w' || sign == 'l';
        }

        void take(Tape tape) {
            size = tape.size;
            System.arraycopy(tape.codes, 0, codes, 0, size);
            knownOf = -1;
        }

        /** To be called ahead of tenths(..), as the pupils' numbers may be others by now. */
        void load() {
            if (knownOf == pupils.version) {
                return;
            }
            knownOf = pupils.version;
            Arrays.fill(known, 0);
            names[G] = pupils.get(0, Pupils.GAP);
            for (int one = 0; one < pupils.size; one++) {
                slow[one] = pupils.get(one, Pupils.SLOW);
            }
        }

        int tenths(int way, int place, int one, int who, int looked) {
            // By a way the same one always comes at a place, so who answers tells whether it is another.
            int at = ((way * MOST_PUPILS + place) * (MOST_PUPILS + 1) + who + 1) * 2 + looked;
            if (!within(at, 0, known.length - 1)) {
                return 1;
            }
            if (known[at] == 0) {
                names[S] = within(who, 0, MOST_PUPILS - 1) ? slow[who] : 0;
                names[K] = who == NOBODY ? 0 : who == one ? 1 : 2;
                names[P] = place;
                names[W] = way;
                names[L] = looked;
                known[at] = Math.max(1, Math.min(MOST_TENTHS, size == 0 ? withoutText() : byText()));
            }
            return known[at];
        }

        private int withoutText() {
            int more = names[K] == 0 ? names[G] : names[K] == 2 ? 5 : 0;
            return names[S] + more + names[L] * 10;
        }

        private int byText() {
            int height = 0;
            boolean counts = true;
            for (int at = 0; at < size; at++) {
                int code = codes[at];
                int sign = -code;
                int top = height > 0 ? stack[height - 1] : 0;
                if (sign == Tape.IF) {
                    counts = top != 0;
                    height = 0;
                } else if (sign == Tape.LINE_END) {
                    if (counts) {
                        return top;
                    }
                    counts = true;
                    height = 0;
                } else if (sign == '!' || sign == Tape.NEGATED) {
                    height = lay(height - 1, sign == '!' ? (top == 0 ? 1 : 0) : -top);
                } else if (code >= 0 || isName(sign)) {
                    height = lay(height, code >= 0 ? code : named(sign));
                } else {
                    height = lay(height - 2, workedOut(height > 1 ? stack[height - 2] : 0, sign, top));
                }
            }
            return 0;
        }

        /** Lays a value on the stack at a place; answers the height then. */
        private int lay(int place, int value) {
            if (place < 0 || place >= stack.length) {
                return 0;
            }
            stack[place] = value;
            return place + 1;
        }

        private int named(int sign) {
            switch (sign) {
                case 's':
                    return names[S];
                case 'g':
                    return names[G];
                case 'k':
                    return names[K];
                case 'p':
                    return names[P];
                case 'w':
                    return names[W];
                default:
                    return names[L];
            }
        }

        private static int workedOut(int a, int sign, int b) {
            switch (sign) {
                case '+':
                    return a + b;
                case '-':
                    return a - b;
                case '*':
                    return a * b;
                case '/':
                    return b == 0 ? 0 : a / b;
                case '%':
                    return b == 0 ? 0 : a % b;
                case '<':
                    return a < b ? 1 : 0;
                case '=':
                    return a == b ? 1 : 0;
                case '>':
                    return a > b ? 1 : 0;
                case '&':
                    return a != 0 && b != 0 ? 1 : 0;
                default:
                    return a != 0 || b != 0 ? 1 : 0;
            }
        }
    }

    /**
     * A call, name by name. It works on rows of its own, so that a question may change
     * how bold, how late or whose friend one is without touching the pupils.
     */
    private static final class Call {
        private final Pupils pupils;
        private final Law law;
        final int[] order = new int[MOST_PUPILS];
        final int[] bold = new int[MOST_PUPILS];
        final int[] friends = new int[MOST_PUPILS];
        final int[] late = new int[MOST_PUPILS];
        private final int[] helped = new int[MOST_PUPILS];
        final int[] answerer = new int[MOST_PUPILS];
        final int[] cameAt = new int[MOST_PUPILS];
        private int way;
        private int looks;
        int here;
        int marked;
        int falsely;
        int helpers;
        int tenths;
        int caught;

        Call(Pupils pupils, Law law) {
            this.pupils = pupils;
            this.law = law;
        }

        void inLessonByWay(int lesson, int byWay, int atWhom) {
            load(byWay);
            inLesson(lesson);
            make(atWhom);
        }

        /** The order by a way, and how bold and whose friends they are. */
        void load(int byWay) {
            way = byWay;
            law.load();
            for (int one = 0; one < pupils.size; one++) {
                bold[one] = pupils.get(one, Pupils.BOLD);
                friends[one] = pupils.get(one, Pupils.FRIENDS);
                lineUp(one);
            }
        }

        private void lineUp(int one) {
            int place = one;
            int rank = pupils.rank(one, way);
            while (place > 0 && pupils.rank(order[place - 1], way) > rank) {
                order[place] = order[place - 1];
                place--;
            }
            order[place] = one;
        }

        void inLesson(int lesson) {
            here = 0;
            for (int one = 0; one < pupils.size; one++) {
                late[one] = pupils.get(one, Pupils.LATE);
                if (pupils.isHere(one, lesson)) {
                    here |= 1 << one;
                }
            }
        }

        /** Each of a set is there from the beginning, no other one is at all. */
        void withOnly(int set) {
            here = set;
            Arrays.fill(late, 0);
        }

        void make(int atWhom) {
            looks = atWhom;
            marked = 0;
            falsely = 0;
            helpers = 0;
            tenths = 0;
            caught = 0;
            Arrays.fill(helped, 0);
            for (int place = 0; place < pupils.size; place++) {
                nameComes(place, order[place]);
            }
        }

        private void nameComes(int place, int one) {
            boolean looked = holds(looks, one);
            int who = one;
            if (!isThere(one, tenths)) {
                who = helperOf(one);
                if (looked && who != NOBODY) {
                    caught++;
                    who = NOBODY;
                }
            }
            answerer[one] = who;
            cameAt[one] = tenths;
            if (who != NOBODY) {
                marked |= 1 << one;
                if (who != one) {
                    falsely |= 1 << one;
                    helpers |= 1 << who;
                    helped[who]++;
                }
            }
            tenths += law.tenths(way, place, one, who, looked ? 1 : 0);
        }

        private boolean isThere(int one, int tenth) {
            return holds(here, one) && late[one] <= tenth;
        }

        private int helperOf(int one) {
            for (int friend = 0; friend < pupils.size; friend++) {
                if (holds(friends[friend], one) && helped[friend] < bold[friend] && isThere(friend, tenths)) {
                    return friend;
                }
            }
            return NOBODY;
        }

        int missed() {
            return here & ~marked;
        }

        int howManyThere(int tenth) {
            int there = 0;
            for (int one = 0; one < pupils.size; one++) {
                if (isThere(one, tenth)) {
                    there++;
                }
            }
            return there;
        }
    }

    /** What she works out by calls in thought. */
    private static final class Thought {
        private final Pupils pupils;
        private final Call call;
        int sets;
        int leastSet;
        private int inAnySet;
        private final int[] setsWith = new int[MOST_PUPILS];
        private final int[] between = new int[MOST_PUPILS * 10];

        Thought(Pupils pupils, Call call) {
            this.pupils = pupils;
            this.call = call;
        }

        private int everybody() {
            return (1 << pupils.size) - 1;
        }

        int wayWithFewest(int lesson, int what) {
            int best = 0;
            int fewest = Integer.MAX_VALUE;
            int tenths = Integer.MAX_VALUE;
            for (int way = 0; way < WAYS; way++) {
                call.load(way);
                call.inLesson(lesson);
                call.make(0);
                int wrong = Integer.bitCount(call.falsely) + Integer.bitCount(call.missed());
                if (wrong < fewest || wrong == fewest && call.tenths < tenths) {
                    best = way;
                    fewest = wrong;
                    tenths = call.tenths;
                }
            }
            return what == 0 ? best : what == 1 ? fewest : tenths;
        }

        int fewestLooks(int lesson, int way, int what) {
            call.load(way);
            call.inLesson(lesson);
            int best = everybody();
            for (int looks = everybody(); looks >= 0; looks--) {
                if (Integer.bitCount(looks) <= Integer.bitCount(best)) {
                    call.make(looks);
                    best = call.falsely == 0 ? looks : best;
                }
            }
            call.make(best);
            return what == 0 ? Integer.bitCount(best) : what == 1 ? best : call.tenths;
        }

        int oneMoreLook(int looks, int what) {
            int best = NOT;
            int fewest = NOT;
            for (int one = 0; one < pupils.size; one++) {
                if (!holds(looks, one)) {
                    call.make(looks | 1 << one);
                    int wrong = Integer.bitCount(call.falsely);
                    if (best == NOT || wrong < fewest) {
                        best = one;
                        fewest = wrong;
                    }
                }
            }
            return what == 0 ? best : fewest;
        }

        /** Which sets of so many heads, there from the beginning, are marked so. */
        void findSets(int marks, int way, int heads) {
            sets = 0;
            inAnySet = 0;
            Arrays.fill(setsWith, 0);
            call.load(way);
            for (int set = 0; set <= everybody(); set++) {
                if (Integer.bitCount(set) == heads) {
                    call.withOnly(set);
                    call.make(0);
                    if (call.marked == marks) {
                        addSet(set);
                    }
                }
            }
        }

        private void addSet(int set) {
            leastSet = sets == 0 ? set : leastSet;
            sets++;
            inAnySet |= set;
            for (int one = 0; one < pupils.size; one++) {
                setsWith[one] += holds(set, one) ? 1 : 0;
            }
        }

        int inNoSet() {
            return everybody() & ~inAnySet;
        }

        int evenestSplit() {
            if (sets == 0) {
                return NOT;
            }
            int best = NOT;
            int least = Integer.MAX_VALUE;
            for (int one = 0; one < pupils.size; one++) {
                int greater = Math.max(setsWith[one], sets - setsWith[one]);
                if (greater < least) {
                    best = one;
                    least = greater;
                }
            }
            return best;
        }

        int greatestLate(int lesson, int way, int pupil) {
            call.load(way);
            call.inLesson(lesson);
            if (!holds(call.here, pupil)) {
                return NOT;
            }
            call.late[pupil] = Pupils.MOST_LATE;
            call.make(0);
            // One who comes no sooner than its name answers for nobody ahead of it, so how late
            // it is moves its name no more: the tenth at which the name comes is the last in time.
            return Math.min(Pupils.MOST_LATE, call.cameAt[pupil]);
        }

        int wholeDay(int lessons, int way, boolean wantsFalse) {
            int sum = 0;
            call.load(way);
            for (int lesson = 0; lesson < lessons; lesson++) {
                call.inLesson(lesson);
                call.make(0);
                sum += wantsFalse ? Integer.bitCount(call.falsely) : call.tenths;
            }
            return sum;
        }

        int mostAnsweringPair(int way, int what) {
            Arrays.fill(between, 0);
            call.load(way);
            for (int lesson = 0; lesson < LESSONS; lesson++) {
                call.inLesson(lesson);
                call.make(0);
                addPairs();
            }
            int best = NOT;
            int most = 0;
            for (int pair = 0; pair < between.length; pair++) {
                if (between[pair] > most) {
                    best = pair;
                    most = between[pair];
                }
            }
            return what == 0 ? best : most;
        }

        private void addPairs() {
            for (int one = 0; one < pupils.size; one++) {
                int who = call.answerer[one];
                if (who != NOBODY && who != one) {
                    between[Math.min(one, who) * 10 + Math.max(one, who)]++;
                }
            }
        }

        int mornings(int seed, int n, int ill, boolean wantsFalse) {
            int z = seed;
            int sum = 0;
            for (int morning = 0; morning < n; morning++) {
                int set = 0;
                for (int one = 0; one < pupils.size; one++) {
                    z = z * 1103515245 + 12345;
                    if ((z >>> 8) % 12 >= ill) {
                        set |= 1 << one;
                    }
                }
                call.withOnly(set);
                call.make(0);
                sum += wantsFalse ? Integer.bitCount(call.falsely) : call.tenths;
            }
            return sum;
        }
    }

    /** Registers read back against calls by the way that the call is loaded with. */
    private static final class Registers {
        private static final int MOST_BOLD = 7;

        private final Call call;

        Registers(Call call) {
            this.call = call;
        }

        int firstWrong(Shelf row) {
            for (int two = 0; two * 2 < row.size; two++) {
                int lesson = (int) row.get(two * 2);
                if (!row.has(two * 2, 2) || !isLesson(lesson)) {
                    return two;
                }
                call.inLesson(lesson);
                call.make(0);
                if (call.marked != row.get(two * 2 + 1)) {
                    return two;
                }
            }
            return NOT;
        }

        int ifNotBold(Shelf row, int pupils) {
            int bits = 0;
            for (int one = 0; one < pupils; one++) {
                int was = call.bold[one];
                call.bold[one] = 0;
                if (firstWrong(row) == NOT) {
                    bits |= 1 << one;
                }
                call.bold[one] = was;
            }
            return bits;
        }

        int leastBold(Shelf row, int pupil) {
            for (int bold = 0; bold <= MOST_BOLD; bold++) {
                call.bold[pupil] = bold;
                if (firstWrong(row) == NOT) {
                    return bold;
                }
            }
            return NOT;
        }

        int setsOfFriends(Shelf row, int pupil, int what) {
            int sets = 0;
            int least = NOT;
            for (int friends = 0; friends <= ALL_BITS; friends++) {
                call.friends[pupil] = friends;
                if (firstWrong(row) == NOT) {
                    least = sets == 0 ? friends : least;
                    sets++;
                }
            }
            return what == 0 ? sets : least;
        }
    }

    /** Calls in deed and what they left, and the image of it. */
    private static final class Deeds {
        static final int MARKS_OF_ONE = 10;
        private static final int CALLS = 0, TENTHS = 1, MARKS = 2, CAUGHT = 3, PUNISHED = 4, TOLD = 5;

        private final Pupils pupils;
        private final int[] marks = new int[MOST_PUPILS];
        private final int[] led = new int[TOLD];
        private final int[] keptMarks = new int[MOST_PUPILS];
        private final int[] keptBold = new int[MOST_PUPILS];
        private final int[] keptLed = new int[TOLD];
        private int keptSize;
        private boolean isKept;

        Deeds(Pupils pupils) {
            this.pupils = pupils;
        }

        int marksOf(int one) {
            return within(one, 0, MOST_PUPILS - 1) ? marks[one] : 0;
        }

        int told(int what) {
            return within(what, 0, TOLD - 1) ? led[what] : BAD;
        }

        void note(Call call) {
            led[CALLS]++;
            led[TENTHS] += call.tenths;
            led[MARKS] += Integer.bitCount(call.marked);
            led[CAUGHT] += call.caught;
            for (int one = 0; one < pupils.size; one++) {
                marks[one] += holds(call.marked, one) ? 1 : 0;
            }
        }

        int makeMeek(int one) {
            int was = pupils.get(one, Pupils.BOLD);
            pupils.set(one, Pupils.BOLD, 0);
            led[PUNISHED]++;
            return was;
        }

        int keepImage() {
            isKept = true;
            keptSize = pupils.size;
            for (int one = 0; one < keptSize; one++) {
                keptBold[one] = pupils.get(one, Pupils.BOLD);
            }
            System.arraycopy(marks, 0, keptMarks, 0, MOST_PUPILS);
            System.arraycopy(led, 0, keptLed, 0, TOLD);
            return led[CALLS];
        }

        int layBack() {
            if (!isKept) {
                return STATE;
            }
            for (int one = 0; one < keptSize; one++) {
                pupils.set(one, Pupils.BOLD, keptBold[one]);
            }
            // Nobody had marks before it came, so the kept ones of those that came since are 0.
            System.arraycopy(keptMarks, 0, marks, 0, MOST_PUPILS);
            System.arraycopy(keptLed, 0, led, 0, TOLD);
            return led[CALLS];
        }
    }

    /** The changes by mend(): the first ones are done, those behind may be done again. */
    private static final class Changes {
        private static final int MOST = 40;

        private final Pupils pupils;
        private final int[] numbers = new int[MOST];
        private final int[] whats = new int[MOST];
        private final int[] before = new int[MOST];
        private final int[] after = new int[MOST];
        int done;
        private int size;

        Changes(Pupils pupils) {
            this.pupils = pupils;
        }

        void add(int number, int what, int was, int v) {
            if (done >= MOST) {
                forgetFirst(numbers);
                forgetFirst(whats);
                forgetFirst(before);
                forgetFirst(after);
                done = MOST - 1;
            }
            numbers[done] = number;
            whats[done] = what;
            before[done] = was;
            after[done] = v;
            done++;
            size = done;
        }

        private static void forgetFirst(int[] row) {
            System.arraycopy(row, 1, row, 0, MOST - 1);
        }

        int takeBack() {
            if (done < 1) {
                return STATE;
            }
            done--;
            pupils.set(numbers[done], whats[done], before[done]);
            return done;
        }

        int doAgain() {
            if (done >= size) {
                return STATE;
            }
            pupils.set(numbers[done], whats[done], after[done]);
            done++;
            return size - done;
        }
    }

    /** Voices of kinds, and their acts, of which many come from a kind above. */
    private static final class Voices {
        static final int KINDS = 8;
        private static final int MOST = 50, KEPT = 24, ACTS = 4, INTERFACES = 8, MOST_DEEP = 40;
        private static final int SAYS = 0, HEARS = 1, MARKS = 2, TELLS = 3;
        /** The interfaces of VOICE count as the kind above it. */
        private static final int[] ABOVE = {8, 0, 0, 2, 1, 3, 0, 4, -1};
        /** The number of each kind's body of says, hears, marks, tells; 0: it has none. */
        private static final int[] BODIES = {
            0, 10, 11, 0,
            20, 0, 0, 0,
            0, 30, 0, 0,
            0, 41, 40, 0,
            0, 0, 50, 0,
            0, 0, 0, 60,
            70, 0, 0, 0,
            0, 80, 0, 81,
            1, 0, 0, 2,
        };

        private final int[] kinds = new int[MOST];
        private final int[] trace = new int[KEPT];
        int size;
        int ran;
        private int voice;
        private int kind;

        int add(int ofKind) {
            if (size >= MOST) {
                return FULL;
            }
            kinds[size] = ofKind;
            size++;
            return size - 1;
        }

        boolean isOne(int number) {
            return within(number, 0, size - 1);
        }

        int kindOf(int number) {
            return isOne(number) ? kinds[number] : NOBODY;
        }

        static boolean isUnder(int one, int above) {
            int at = one;
            for (int steps = 0; steps <= KINDS && within(at, 0, KINDS - 1); steps++) {
                if (at == above) {
                    return true;
                }
                at = ABOVE[at];
            }
            return false;
        }

        int ranAt(int i) {
            return within(i, 0, Math.min(ran, KEPT) - 1) ? trace[i] : BAD;
        }

        int perform(int number, int act, int x) {
            ran = 0;
            if (!isOne(number) || !within(act, 0, ACTS - 1)) {
                return 0;
            }
            voice = number;
            kind = kinds[number];
            return run(act, kind, x, 0);
        }

        /** The kind, from one on upward, that has a body of an act; below 0: none has. */
        private static int whoseBody(int act, int from) {
            int at = from;
            for (int steps = 0; steps <= KINDS && within(at, 0, INTERFACES); steps++) {
                if (BODIES[at * ACTS + act] != 0) {
                    return at;
                }
                at = ABOVE[at];
            }
            return -1;
        }

        private void note(int number) {
            if (ran < KEPT) {
                trace[ran] = number;
            }
            ran++;
        }

        private int run(int act, int from, int x, int deep) {
            int at = whoseBody(act, from);
            if (at < 0 || deep > MOST_DEEP) {
                return 0;
            }
            int number = BODIES[at * ACTS + act];
            int above = ABOVE[at];
            int d = deep + 1;
            note(number);
            switch (number) {
                case 1:
                    return x + voice;
                case 2:
                    return run(HEARS, kind, x, d) - run(MARKS, kind, 1, d);
                case 10:
                    return run(SAYS, kind, x, d) * 2;
                case 11:
                    return x ^ voice;
                case 20:
                    return run(SAYS, above, x, d) + 3;
                case 30:
                    return -run(HEARS, above, x, d);
                case 40:
                    return run(MARKS, above, x, d) * 3;
                case 41:
                    return run(HEARS, above, x + 1, d);
                case 50:
                    return run(MARKS, above, x, d) - run(SAYS, kind, 2, d);
                case 60:
                    return run(TELLS, above, x, d) ^ 5;
                case 70:
                    return run(SAYS, above, x, d) * 2;
                case 80:
                    return run(HEARS, above, x, d) + run(MARKS, kind, 2, d);
                case 81:
                    return run(TELLS, above, x, d) - 1;
                default:
                    return 0;
            }
        }
    }

    /** A shelf: nothing, a voice, or a row; its elements are made once and used by every row. */
    private static final class Shelf {
        static final int BYTES = 0, SHORTS = 1, INTS = 2, LONGS = 3, BOOLEANS = 4, SORTS = 5, MOST = 60;
        private static final int NONE = -1;

        final long[] elements = new long[MOST];
        int sort = NONE;
        int size;
        int voice = NOBODY;

        boolean isEmpty() {
            return sort == NONE && voice == NOBODY;
        }

        boolean isRow() {
            return sort != NONE;
        }

        boolean isRowOf(int wanted) {
            return isRow() && sort == wanted;
        }

        void holdVoice(int number) {
            voice = number;
            sort = NONE;
            size = 0;
        }

        void holdRow(int ofSort, int n) {
            voice = NOBODY;
            sort = ofSort;
            size = Math.max(0, Math.min(MOST, n));
            Arrays.fill(elements, 0);
        }

        /** Whether so many elements stand there from a place on. */
        boolean has(int place, int n) {
            return place >= 0 && n >= 0 && n <= size && place <= size - n;
        }

        int refusalAsRowOf(int wanted) {
            return isEmpty() ? MISSING : isRowOf(wanted) ? 0 : OTHER_KIND;
        }

        int refusalAt(int place) {
            if (isEmpty()) {
                return MISSING;
            }
            if (!isRow()) {
                return OTHER_KIND;
            }
            return has(place, 1) ? 0 : NO_PLACE;
        }

        long get(int place) {
            return has(place, 1) ? elements[place] : 0;
        }

        void set(int place, long v) {
            if (has(place, 1)) {
                elements[place] = lowestBits(v);
            }
        }

        private long lowestBits(long v) {
            switch (sort) {
                case BYTES:
                    return (byte) v;
                case SHORTS:
                    return (short) v;
                case INTS:
                    return (int) v;
                case BOOLEANS:
                    return v != 0 ? 1 : 0;
                default:
                    return v;
            }
        }
    }
}
