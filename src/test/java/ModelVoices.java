import java.util.ArrayList;
import java.util.List;

/** The kinds of voices as Java's own classes and interfaces. */
final class ModelVoices {
    private ModelVoices() { }

    static final class Trace {
        final List<Integer> numbers = new ArrayList<>();
    }

    interface Says {
        int n();

        void ran(int number);

        default int says(int x) {
            ran(1);
            return x + n();
        }
    }

    interface Tells {
        void ran(int number);

        int hears(int x);

        int marks(int x);

        default int tells(int x) {
            ran(2);
            return hears(x) - marks(1);
        }
    }

    static class Voice implements Says, Tells {
        private final int n;
        private final Trace trace;

        Voice(int n, Trace trace) {
            this.n = n;
            this.trace = trace;
        }

        int kind() {
            return 0;
        }

        public int n() {
            return n;
        }

        public void ran(int number) {
            trace.numbers.add(number);
        }

        public int hears(int x) {
            ran(10);
            return says(x) * 2;
        }

        public int marks(int x) {
            ran(11);
            return x ^ n;
        }
    }

    static class High extends Voice {
        High(int n, Trace trace) {
            super(n, trace);
        }

        @Override int kind() {
            return 1;
        }

        @Override public int says(int x) {
            ran(20);
            return super.says(x) + 3;
        }
    }

    static class Bored extends Voice {
        Bored(int n, Trace trace) {
            super(n, trace);
        }

        @Override int kind() {
            return 2;
        }

        @Override public int hears(int x) {
            ran(30);
            return -super.hears(x);
        }
    }

    static class Friend extends Bored {
        Friend(int n, Trace trace) {
            super(n, trace);
        }

        @Override int kind() {
            return 3;
        }

        @Override public int marks(int x) {
            ran(40);
            return super.marks(x) * 3;
        }

        @Override public int hears(int x) {
            ran(41);
            return super.hears(x + 1);
        }
    }

    static class Twin extends High {
        Twin(int n, Trace trace) {
            super(n, trace);
        }

        @Override int kind() {
            return 4;
        }

        @Override public int marks(int x) {
            ran(50);
            return super.marks(x) - says(2);
        }
    }

    static class Park extends Friend {
        Park(int n, Trace trace) {
            super(n, trace);
        }

        @Override int kind() {
            return 5;
        }

        @Override public int tells(int x) {
            ran(60);
            return super.tells(x) ^ 5;
        }
    }

    static class Empty extends Voice {
        Empty(int n, Trace trace) {
            super(n, trace);
        }

        @Override int kind() {
            return 6;
        }

        @Override public int says(int x) {
            ran(70);
            return super.says(x) * 2;
        }
    }

    static class Miss extends Twin {
        Miss(int n, Trace trace) {
            super(n, trace);
        }

        @Override int kind() {
            return 7;
        }

        @Override public int hears(int x) {
            ran(80);
            return super.hears(x) + marks(2);
        }

        @Override public int tells(int x) {
            ran(81);
            return super.tells(x) - 1;
        }
    }

    static Class<?> classOf(int kind) {
        return new Class<?>[] {Voice.class, High.class, Bored.class, Friend.class, Twin.class, Park.class, Empty.class,
            Miss.class}[kind];
    }

    static Voice ofKind(int kind, int n, Trace trace) {
        switch (kind) {
            case 0: return new Voice(n, trace);
            case 1: return new High(n, trace);
            case 2: return new Bored(n, trace);
            case 3: return new Friend(n, trace);
            case 4: return new Twin(n, trace);
            case 5: return new Park(n, trace);
            case 6: return new Empty(n, trace);
            default: return new Miss(n, trace);
        }
    }
}
