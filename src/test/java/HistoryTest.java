/** Promises 20 to 22: undo, save, restore. */
public final class HistoryTest {
    public static void main(String[] args) {
        undoTakesBackEachChange();
        undoBringsEverything();
        undoKeepsPadAndSlots();
        undoHasALimit();
        undoOfChangesThatChangeNothing();
        errorsAreNotRecorded();
        saveKeepsEverything();
        saveOverwrites();
        saveRefuses();
        restoreIsAChange();
        restoreKeepsTheSlot();
        restoreRefuses();
        Check.finish();
    }

    private static int[] dump(JugglerStates x) {
        int[] all = new int[6 * 2 + 2 * 8 * 2 + 5];
        int next = 0;
        for (int juggler = 0; juggler < 2; juggler++) {
            for (int what = 0; what < 6; what++) {
                all[next++] = x.of(juggler, what);
            }
            for (int place = 0; place < 8; place++) {
                all[next++] = x.thrown(juggler, place, 0);
                all[next++] = x.thrown(juggler, place, 1);
            }
        }
        for (int what = 0; what < 5; what++) {
            all[next++] = x.count(what);
        }
        return all;
    }

    private static void same(String what, int[] got, int[] due) {
        for (int index = 0; index < due.length; index++) {
            Check.due(what + ", number " + index, got[index], due[index]);
        }
    }

    private static JugglerStates scene() {
        JugglerStates x = new JugglerStates();
        Check.program(x, "0:5p20");
        Check.program(x, "1:3p41p");
        x.start(4, 3);
        x.pass(9);
        x.pick(0, 7);
        return x;
    }

    private static void undoTakesBackEachChange() {
        JugglerStates x = new JugglerStates();
        x.start(3, 3);
        int[] started = dump(x);
        Check.write(x, "0:441");
        x.read();
        int[] read = dump(x);
        x.pass(7);
        int[] passed = dump(x);
        int beat = Integer.numberOfTrailingZeros(x.of(0, 0));
        x.drop(0, beat);
        int[] dropped = dump(x);
        x.pick(1, 6);
        Check.due("undo of pick", x.undo(), 4);
        same("behind undo of pick", dump(x), dropped);
        Check.due("undo of drop", x.undo(), 3);
        same("behind undo of drop", dump(x), passed);
        Check.due("undo of pass", x.undo(), 2);
        same("behind undo of pass", dump(x), read);
        Check.due("undo of read", x.undo(), 1);
        same("behind undo of read", dump(x), started);
        Check.due("undo of start", x.undo(), 0);
        same("behind undo of start", dump(x), dump(new JugglerStates()));
        Check.due("no more", x.undo(), JugglerStates.NOT_POSSIBLE);
    }

    private static void undoBringsEverything() {
        JugglerStates x = scene();
        int[] before = dump(x);
        x.start(8, 8);
        x.pass(3);
        Check.program(x, "0:7");
        Check.program(x, "1:7p6543210");
        for (int due = 4; due > 1; due--) {
            x.undo();
        }
        Check.due("changes left", x.undo(), 2);
        same("behind four undos", dump(x), before);
    }

    private static void undoKeepsPadAndSlots() {
        JugglerStates x = new JugglerStates();
        x.start(5, 0);
        x.save(0);
        Check.write(x, "333");
        Check.due("undo", x.undo(), 0);
        Check.due("pad stays", x.count(5), 3);
        Check.due("slot stays", x.restore(0), 5);
        x.start(1, 1);
        x.save(0);
        x.undo();
        x.undo();
        Check.due("undo brings no slot back", x.restore(0), 2);
    }

    private static void undoHasALimit() {
        JugglerStates x = new JugglerStates();
        for (int clubs = 1; clubs <= 8; clubs++) {
            x.start(clubs, 0);
            Check.due("changes", x.count(6), Math.min(clubs, 6));
        }
        for (int left = 5; left >= 0; left--) {
            Check.due("undo", x.undo(), left);
            Check.due("clubs", x.count(2), left + 2);
        }
        Check.due("no more", x.undo(), JugglerStates.NOT_POSSIBLE);
        Check.due("clubs stay", x.count(2), 2);
        x.start(0, 7);
        Check.due("changes", x.count(6), 1);
        Check.due("undo", x.undo(), 0);
        Check.due("clubs", x.count(2), 2);
    }

    private static void undoOfChangesThatChangeNothing() {
        JugglerStates x = new JugglerStates();
        x.start(0, 0);
        Check.due("start is recorded", x.count(6), 1);
        Check.program(x, "0:0");
        Check.due("read is recorded", x.count(6), 2);
        x.save(0);
        Check.due("save is not", x.count(6), 2);
        x.restore(0);
        Check.due("restore is recorded", x.count(6), 3);
    }

    private static void errorsAreNotRecorded() {
        JugglerStates x = new JugglerStates();
        x.start(9, 0);
        x.read();
        x.pass(0);
        x.drop(0, 0);
        x.pick(0, 0);
        x.restore(0);
        x.restore(2);
        Check.due("changes", x.count(6), 0);
        x.start(1, 0);
        x.undo();
        Check.due("undo is no change", x.count(6), 0);
        Check.due("clubs", x.count(2), 0);
    }

    private static void saveKeepsEverything() {
        JugglerStates x = scene();
        int[] before = dump(x);
        int clubs = x.count(2);
        Check.due("save(1)", x.save(1), clubs);
        same("save changes nothing", dump(x), before);
        Check.program(x, "0:7");
        Check.program(x, "1:66p6");
        x.start(1, 0);
        x.pass(2);
        Check.write(x, "12");
        Check.due("the other slot is empty", x.restore(0), JugglerStates.NOT_POSSIBLE);
        Check.due("restore(1)", x.restore(1), clubs);
        same("behind restore", dump(x), before);
        Check.due("pad stays", x.count(5), 2);
    }

    private static void saveOverwrites() {
        JugglerStates x = new JugglerStates();
        x.start(3, 0);
        Check.due("save(0)", x.save(0), 3);
        x.start(4, 1);
        Check.due("save(1)", x.save(1), 5);
        x.start(0, 1);
        x.drop(1, 0);
        Check.due("save counts the floor", x.save(0), 1);
        Check.due("restore(1)", x.restore(1), 5);
        Check.due("restore(0)", x.restore(0), 1);
        Check.due("floor", x.count(1), 1);
    }

    private static void saveRefuses() {
        JugglerStates x = new JugglerStates();
        for (int slot : new int[] {-1, 2, Integer.MIN_VALUE, Integer.MAX_VALUE}) {
            Check.due("save(" + slot + ")", x.save(slot), JugglerStates.BAD_VALUE);
        }
        Check.due("nothing saved", x.restore(0), JugglerStates.NOT_POSSIBLE);
        Check.due("nothing saved", x.restore(1), JugglerStates.NOT_POSSIBLE);
    }

    private static void restoreIsAChange() {
        JugglerStates x = new JugglerStates();
        x.start(2, 2);
        x.save(0);
        x.start(3, 3);
        x.restore(0);
        Check.due("changes", x.count(6), 3);
        Check.due("undo", x.undo(), 2);
        Check.due("clubs", x.count(2), 6);
    }

    private static void restoreKeepsTheSlot() {
        JugglerStates x = scene();
        int[] saved = dump(x);
        x.save(0);
        for (int turn = 0; turn < 2; turn++) {
            x.pass(5);
            Check.program(x, "0:123");
            x.restore(0);
            same("restored, turn " + turn, dump(x), saved);
        }
    }

    private static void restoreRefuses() {
        JugglerStates x = new JugglerStates();
        x.save(1);
        for (int slot : new int[] {-1, 2, Integer.MIN_VALUE, Integer.MAX_VALUE}) {
            Check.due("restore(" + slot + ")", x.restore(slot), JugglerStates.BAD_VALUE);
        }
        Check.due("nothing saved in 0", x.restore(0), JugglerStates.NOT_POSSIBLE);
        Check.due("restore(1)", x.restore(1), 0);
    }
}
