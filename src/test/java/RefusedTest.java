import java.util.ArrayList;
import java.util.List;
import java.util.Random;
import java.util.Set;

/**
 * "What is answered so changes nothing": each call with each argument at its edges and beyond them,
 * in an empty, a usual and a full room. The answer is the model's; and behind a call that was refused,
 * or that only asks, the room answers everything as its twin does that was not called.
 */
public final class RefusedTest {
    private static final int MIN = Integer.MIN_VALUE, MAX = Integer.MAX_VALUE, DRAWN = 40;

    /** By the numbers of their promises, from 2 on, each with arguments that are allowed in the usual room. */
    private static final String[] CALLS = {
        "pupil 5 5", "pupils 2 0 1", "mend 1 1 5", "of 1 3", "feed 115", "law", "called 1 0 0", "answers 1 0 1",
        "bestWay 0 0", "enough 1 0", "next 1 0 0", "heads 0 0", "absent 7 12 0", "ask 7 12", "inTime 1 0", "fire 0 0",
        "day 1 0 0", "order 0 0", "judge 3 0", "who 3 0", "howBold 3 0 0", "forWhom 3 0 0 0", "partners 0 0",
        "drawn 5 30 4 0", "call 1 0", "punish 0", "led 0", "image", "back", "undo", "redo", "body 4", "act 1 1 1",
        "trace 0", "keep 0 0", "row 0 1 3", "put 4 1 9", "element 4 1", "shift 4 0 4 1 2", "taken 1 0", "count 0",
    };
    private static final Set<String> QUESTIONS = Set.of("of", "called", "answers", "bestWay", "enough", "next", "heads",
        "absent", "ask", "inTime", "fire", "day", "order", "judge", "who", "howBold", "forWhom", "partners", "drawn", "led",
        "trace", "element", "taken", "count");
    private static final int[] EDGES = {
        MIN, MIN + 1, -2000000000, -129, -128, -15, -2, -1, 0, 1, 2, 3, 4, 5, 6, 7, 8, 9, 10, 12, 13, 15, 16, 29, 30, 31, 49,
        50, 51, 59, 60, 61, 89, 92, 93, 99, 100, 102, 103, 254, 255, 256, 257, 502, 503, 510, 998, 999, 1000, 9999, 10000,
        MAX - 2, MAX - 1, MAX,
    };

    private final String room;
    private final List<String> built;
    private final List<String> asItWas;
    private final List<String> asItWasUndone;

    private RefusedTest(String room, List<String> built) {
        this.room = room;
        this.built = built;
        Asked model = new Asked(new Model());
        model.ask(built);
        asItWas = everything(model);
        model = new Asked(new Model());
        model.ask(built);
        asItWasUndone = changes(model);
    }

    public static void main(String[] args) {
        new RefusedTest("the empty room", List.of()).each();
        new RefusedTest("the usual room", usual()).each();
        new RefusedTest("the full room", full()).each();
        theFullRoomIsFull();
        Due.end();
    }

    private static void feed(List<String> calls, String text) {
        for (char letter : text.toCharArray()) {
            calls.add("feed " + (int) letter);
        }
    }

    private static void row(List<String> calls, int shelf, int sort, int... elements) {
        calls.add("row " + shelf + " " + sort + " " + elements.length);
        for (int i = 0; i < elements.length; i++) {
            calls.add("put " + shelf + " " + i + " " + elements[i]);
        }
    }

    /** Three pupils; something of everything, and room for more. */
    private static List<String> usual() {
        List<String> calls = new ArrayList<>(List.of("pupil 40 15", "pupil 10 22", "pupil 90 8", "mend 0 3 2", "mend 0 4 6",
            "mend 1 7 60", "mend 2 5 3", "mend 1 2 4", "mend 1 3 1", "mend 0 8 33", "mend 2 3 5", "mend 1 0 11", "undo",
            "undo"));
        feed(calls, "s+k*3+l");
        calls.add("law");
        feed(calls, "g+");
        calls.addAll(List.of("body 0", "body 7", "body 5", "keep 1 1", "call 1 2", "punish 2", "image", "call 31 0", "punish 1",
            "act 1 3 9"));
        row(calls, 2, 0, 7, 8, 9, 1, 2, 3);
        row(calls, 3, 1, 0, 7, 3, 7);
        row(calls, 4, 3, 5, -6, 7);
        row(calls, 5, 4, 1, 0);
        return calls;
    }

    /** Eight pupils, forty changes, a full tape, fifty bodies. */
    private static List<String> full() {
        List<String> calls = new ArrayList<>();
        for (int i = 0; i < 8; i++) {
            calls.add("pupil " + (i * 37 % 50) + " " + (i + 5));
        }
        for (int i = 0; i < 8; i++) {
            String one = "mend " + i;
            calls.addAll(List.of(one + " 3 " + (i + 1) % 8, one + " 4 " + (255 - i), one + " 7 " + i * 9,
                one + " 2 " + (15 - i), one + " 1 " + (i + 7)));
        }
        calls.addAll(List.of("mend 0 9 7", "mend 7 5 1", "mend 6 6 8"));
        feed(calls, "s+" + "1+".repeat(56) + "k*10+l");
        for (int i = 0; i < 50; i++) {
            calls.add("body " + i % 8);
        }
        calls.addAll(List.of("keep 0 0", "keep 1 49", "keep 5 47", "call 1 0", "image", "call 11 129", "act 47 1 3"));
        row(calls, 2, 0, 1, 2, 3);
        row(calls, 3, 1, 0, 255, 9, 255);
        row(calls, 4, 2, 9, 8, 7, 6);
        return calls;
    }

    private static void theFullRoomIsFull() {
        Asked asked = new Asked(new HereMiss());
        asked.ask(full());
        int[] due = {8, 120, 40, 50};
        for (int what = 0; what < due.length; what++) {
            Due.due("42: the full room is full of " + what, asked.ask("count " + what), due[what]);
        }
    }

    private static List<String> behind(Asked asked, int from) {
        return asked.told.subList(from, asked.told.size());
    }

    /** What a room answers, from its numbers to its image and its tape. */
    private static List<String> everything(Asked asked) {
        int from = asked.told.size();
        for (int i = 0; i < 5; i++) {
            asked.ask("count " + i);
            asked.ask("led " + i);
        }
        for (int number = 0; number < 8; number++) {
            for (int what = 0; what <= 10; what++) {
                asked.ask("of " + number + " " + what);
            }
        }
        for (int i = 0; i < 15; i++) {
            asked.ask("trace " + i);
        }
        for (int shelf = 0; shelf < 6; shelf++) {
            asked.ask("taken " + shelf + " 0");
            for (int i = 0; i < 6; i++) {
                asked.ask("element " + shelf + " " + i);
            }
        }
        asked.ask(List.of("called 1 5 1", "back", "called 1 5 1", "law", "called 1 5 1"));
        for (int i = 0; i < 5; i++) {
            asked.ask("led " + i);
        }
        for (int number = 0; number < 8; number++) {
            asked.ask("of " + number + " 3");
            asked.ask("of " + number + " 10");
        }
        return behind(asked, from);
    }

    /** What may be undone and done again, and what stands between. */
    private static List<String> changes(Asked asked) {
        int from = asked.told.size();
        asked.ask(List.of("redo", "redo", "redo"));
        for (int i = 0; i < 41; i++) {
            asked.ask("undo");
            if (i % 8 == 0) {
                standing(asked);
            }
        }
        standing(asked);
        for (int i = 0; i < 41; i++) {
            asked.ask("redo");
        }
        standing(asked);
        return behind(asked, from);
    }

    private static void standing(Asked asked) {
        asked.ask(List.of("called 1 0 1", "called 32 0 0", "of 0 8", "of 0 9", "of 1 0", "of 7 4", "of 1 2"));
    }

    private void each() {
        Random draw = new Random(built.size());
        for (int promise = 2; promise <= CALLS.length + 1; promise++) {
            String[] words = CALLS[promise - 2].split(" ");
            if (words.length == 1) {
                call(promise, words);
            }
            for (int at = 1; at < words.length; at++) {
                for (int edge : EDGES) {
                    String[] beside = words.clone();
                    beside[at] = "" + edge;
                    call(promise, beside);
                }
            }
            for (int i = 0; i < DRAWN && words.length > 2; i++) {
                String[] drawn = words.clone();
                for (int at = 1; at < words.length; at++) {
                    drawn[at] = "" + (draw.nextInt(3) == 0 ? draw.nextInt(8) : EDGES[draw.nextInt(EDGES.length)]);
                }
                call(promise, drawn);
            }
        }
    }

    private static boolean changesNothing(String[] words, long answer) {
        switch (words[0]) {
            case "law":
            case "act":
            case "image":
                return false;
            case "mend":
                return answer == HereMiss.VOID || answer == Long.parseLong(words[3]);
            case "pupils":
            case "shift":
                return answer <= 0;
            default:
                return answer < 0 || QUESTIONS.contains(words[0]);
        }
    }

    private void call(int promise, String[] words) {
        String call = String.join(" ", words);
        Asked model = new Asked(new Model());
        model.ask(built);
        Asked asked = new Asked(new HereMiss());
        asked.ask(built);
        long answer = asked.ask(call);
        Due.due(promise + ": in " + room + ", " + call, answer, model.ask(call));
        if (changesNothing(words, answer)) {
            same(promise, call, asItWas, everything(asked));
            Asked twin = new Asked(new HereMiss());
            twin.ask(built);
            twin.ask(call);
            same(promise, call, asItWasUndone, changes(twin));
        }
    }

    private void same(int promise, String call, List<String> due, List<String> told) {
        int at = 0;
        while (at < due.size() && due.get(at).equals(told.get(at))) {
            at++;
        }
        boolean same = at == due.size();
        String what = same ? "" : ", then " + told.get(at) + ", not" + due.get(at).substring(due.get(at).lastIndexOf(' '));
        Due.due(promise + ": in " + room + ", " + call + " changes nothing" + what, same ? 0 : 1, 0);
    }
}
