/** Promises 26 to 32: calls in deed, punishing, the image, changes undone and done again. */
public final class DeedsTest {
    public static void main(String[] args) {
        call();
        caught();
        punish();
        image();
        laterPupils();
        undo();
        redo();
        fortyChanges();
        changesAndDeeds();
        Due.end();
    }

    private static void led(HereMiss x, String of, int... due) {
        String[] what = {"calls", "tenths", "MARKS", "CAUGHT", "punished"};
        for (int i = 0; i < due.length; i++) {
            Due.due(of + ": " + what[i], x.led(i), due[i]);
        }
    }

    private static void marks(HereMiss x, String of, int... due) {
        for (int i = 0; i < due.length; i++) {
            Due.due(of + ": marks of " + i, x.of(i, 10), due[i]);
        }
    }

    private static void call() {
        HereMiss x = Due.room(3);
        int[] tws = {-1, 3, 100, Integer.MIN_VALUE, Integer.MAX_VALUE};
        for (int tw : tws) {
            Due.due("26: tw " + tw, x.call(tw, 0), -1);
        }
        Due.due("26: looks -1", x.call(0, -1), -1);
        Due.due("26: looks 256", x.call(0, 256), -1);
        Due.due("28: what -1", x.led(-1), -1);
        Due.due("28: what 5", x.led(5), -1);
        led(x, "28: nothing yet", 0, 0, 0, 0, 0);
        x.mend(1, 5, 1);
        x.mend(2, 7, 999);
        x.mend(0, 3, 1);
        x.mend(0, 4, 2);
        Due.due("26: falsely MARKED, too", x.call(1, 0), 3);
        led(x, "28: one call", 1, 10 + 15 + 30, 2, 0, 0);
        marks(x, "26: a MARK more each", 1, 1, 0);
        Due.due("26: another lesson, with a look", x.call(11, 1), 3);
        led(x, "28: two calls", 2, 55 + 20 + 20 + 30, 4, 0, 0);
        marks(x, "26: and more", 2, 2, 0);
        Due.due("26: of an empty room", new HereMiss().call(92, 255), 0);
        x.called(1, 0, 0);
        led(x, "28: not by a call in thought", 2, 125, 4, 0, 0);
    }

    private static void caught() {
        HereMiss x = Due.room(4);
        x.mend(1, 5, 1);
        x.mend(2, 5, 1);
        x.mend(3, 7, 999);
        x.mend(0, 3, 1);
        x.mend(0, 4, 14);
        Due.due("26: looks at who is there", x.call(1, 1), 3);
        led(x, "28: none caught", 1, 20 + 15 + 60, 2, 0);
        Due.due("26: looks at 1", x.call(1, 2), 5);
        led(x, "28: one caught", 2, 95 + 10 + 40 + 15 + 30, 4, 1);
        Due.due("26: looks at 2, whom nobody answers for any more", x.call(1, 4), 3);
        led(x, "28: none more", 3, 190 + 10 + 15 + 40 + 30, 6, 1);
        Due.due("26: looks at all", x.call(1, 15), 1);
        led(x, "28: three more", 4, 285 + 20 + 120, 7, 4);
        x.mend(0, 7, 999);
        Due.due("26: who would answer is not there", x.call(1, 15), 0);
        led(x, "28: none more", 5, 425 + 160, 7, 4);
        x.mend(0, 7, 0);
        x.mend(0, 3, 0);
        Due.due("26: who would answer isn't bold", x.call(1, 14), 1);
        led(x, "28: none more", 6, 585 + 10 + 120, 8, 4);
    }

    private static void punish() {
        HereMiss x = Due.room(2);
        Due.due("27: -1", x.punish(-1), -1);
        Due.due("27: 2", x.punish(2), -1);
        led(x, "28: bad ones do not count", 0, 0, 0, 0, 0);
        x.mend(1, 3, 7);
        Due.due("27: what it was", x.punish(1), 7);
        Due.due("27: 0 now", x.of(1, 3), 0);
        Due.due("27: once more", x.punish(1), 0);
        Due.due("27: FRIENDS stay", x.mend(1, 4, 0), 0);
        led(x, "28: punished", 0, 0, 0, 0, 2);
        Due.due("27: it is no change", x.count(2), 1);
    }

    private static void image() {
        HereMiss x = Due.room(2);
        Due.due("30: none", x.back(), -5);
        x.mend(0, 3, 3);
        x.call(1, 0);
        x.punish(1);
        Due.due("29: calls", x.image(), 1);
        x.call(1, 0);
        x.call(11, 3);
        x.punish(0);
        x.mend(1, 3, 5);
        x.mend(0, 1, 99);
        led(x, "30: ahead", 3, 110, 6, 0, 2);
        Due.due("30: calls", x.back(), 1);
        led(x, "30: laid back", 1, 30, 2, 0, 1);
        marks(x, "30: laid back", 1, 1);
        Due.due("30: BOLD of 0", x.of(0, 3), 3);
        Due.due("30: BOLD of 1", x.of(1, 3), 0);
        Due.due("30: not SLOW", x.of(0, 1), 99);
        x.call(1, 0);
        Due.due("30: again", x.back(), 1);
        led(x, "30: laid back again", 1, 30, 2, 0, 1);
        x.call(1, 0);
        Due.due("29: a later image", x.image(), 2);
        x.call(1, 0);
        Due.due("30: the later one", x.back(), 2);
        marks(x, "30: the later one", 2, 2);
        led(x, "30: the later one", 2, 30 + 119, 4, 0, 1);
    }

    private static void laterPupils() {
        HereMiss x = Due.room(1);
        x.call(1, 0);
        x.image();
        x.pupil(1, 20);
        x.mend(1, 3, 4);
        x.call(1, 0);
        marks(x, "30: ahead", 2, 1);
        Due.due("30: back", x.back(), 1);
        marks(x, "30: those that came since have none", 1, 0);
        Due.due("30: BOLD as it is", x.of(1, 3), 4);
        Due.due("30: both are still there", x.count(0), 2);
        HereMiss y = new HereMiss();
        Due.due("29: of an empty room", y.image(), 0);
        y.pupil(1, 1);
        y.call(1, 0);
        Due.due("30: of an empty room", y.back(), 0);
        marks(y, "30: of an empty room", 0);
    }

    private static void undo() {
        HereMiss x = Due.room(2);
        Due.due("31: none", x.undo(), -5);
        x.mend(0, 0, 1);
        x.mend(0, 1, 2);
        x.mend(1, 2, 3);
        x.mend(0, 8, 4);
        x.mend(0, 9, 5);
        x.mend(1, 7, 6);
        x.mend(1, 7, 6);
        x.mend(1, 7, 1000);
        Due.due("31: as many as there were", x.count(2), 6);
        int[][] latest = {{1, 7, 0}, {0, 9, 4}, {0, 8, 30}, {1, 2, -1}, {0, 1, 10}, {0, 0, 90}};
        for (int i = 0; i < latest.length; i++) {
            Due.due("31: how many may still be", x.undo(), 5 - i);
            Due.due("31: what it was", x.of(latest[i][0], latest[i][1]), latest[i][2]);
        }
        Due.due("31: none any more", x.undo(), -5);
        Due.due("42: none any more", x.count(2), 0);
        x.pupil(4, 4);
        Due.due("31: a pupil is no change", x.undo(), -5);
    }

    private static void redo() {
        HereMiss x = Due.room(1);
        Due.due("32: none", x.redo(), -5);
        x.mend(0, 1, 11);
        x.mend(0, 1, 12);
        x.mend(0, 3, 3);
        Due.due("32: none is undone", x.redo(), -5);
        x.undo();
        x.undo();
        x.undo();
        Due.due("32: how many may still be", x.redo(), 2);
        Due.due("32: done again", x.of(0, 1), 11);
        Due.due("32: one more", x.redo(), 1);
        Due.due("32: done again, too", x.of(0, 1), 12);
        Due.due("32: may be undone again", x.count(2), 2);
        x.mend(0, 1, 12);
        Due.due("32: the same number is none", x.redo(), 0);
        Due.due("32: the last", x.of(0, 3), 3);
        Due.due("32: none any more", x.redo(), -5);
        x.undo();
        x.mend(0, 7, 1);
        Due.due("32: another one came", x.redo(), -5);
        Due.due("32: BOLD stays undone", x.of(0, 3), 0);
        Due.due("31: the other one", x.undo(), 2);
        Due.due("31: then", x.undo(), 1);
        Due.due("31: as ahead of it", x.of(0, 1), 11);
    }

    private static void fortyChanges() {
        HereMiss x = Due.room(1);
        for (int i = 1; i <= 43; i++) {
            x.mend(0, 7, i);
            Due.due("31: kept", x.count(2), Math.min(i, 40));
        }
        for (int i = 39; i >= 0; i--) {
            Due.due("31: still", x.undo(), i);
        }
        Due.due("31: no more than forty", x.undo(), -5);
        Due.due("31: the forty-first stays", x.of(0, 7), 3);
        for (int i = 39; i >= 0; i--) {
            Due.due("32: still", x.redo(), i);
            Due.due("32: one by one", x.of(0, 7), 43 - i);
        }
        x.undo();
        x.mend(0, 1, 99);
        Due.due("31: forty again", x.count(2), 40);
        Due.due("32: none", x.redo(), -5);
        x.undo();
        Due.due("31: SLOW", x.of(0, 1), 10);
        Due.due("31: LATE", x.of(0, 7), 42);
    }

    private static void changesAndDeeds() {
        HereMiss x = Due.room(1);
        x.mend(0, 3, 2);
        x.mend(0, 3, 5);
        x.punish(0);
        Due.due("31: a punishment is none", x.undo(), 1);
        Due.due("31: as ahead of the change", x.of(0, 3), 2);
        x.punish(0);
        Due.due("32: a deed is no change that came behind", x.redo(), 0);
        Due.due("32: what it became", x.of(0, 3), 5);
        x.image();
        x.undo();
        x.call(1, 0);
        Due.due("30: back", x.back(), 0);
        Due.due("30: BOLD of the image", x.of(0, 3), 5);
        Due.due("42: the image keeps no changes", x.count(2), 1);
        Due.due("32: still to be done again", x.redo(), 0);
    }
}
