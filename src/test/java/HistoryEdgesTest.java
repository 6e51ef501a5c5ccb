/** The edges that the promises 20 to 22 name: a test for each sentence. */
public final class HistoryEdgesTest {
    private static final int[] NO_SLOTS = {-1, 2, 3, Integer.MIN_VALUE, -256, 256, Integer.MAX_VALUE};

    public static void main(String[] args) {
        undoing();
        saving();
        Check.finish();
    }

    private static void undoing() {
        Check.sentence("Undoes the latest change: everything except the pad, the slots and the history is as it was before"
            + " it.", HistoryEdgesTest::undoOfEachChange);
        Check.sentence("except the pad, the slots and the history", HistoryEdgesTest::undoKeepsPadAndSlots);
        Check.sentence("A history of at most 6 states is kept:", HistoryEdgesTest::sixStates);
        Check.sentence("each method that is a change, and returns no error, records the state before it",
            HistoryEdgesTest::changesAreRecorded);
        Check.sentence("and returns no error, records", HistoryEdgesTest::errorsAreNotRecorded);
        Check.sentence("(also if nothing is different then);", HistoryEdgesTest::recordedWithoutADifference);
        Check.sentence("when one more is recorded, the oldest one is dropped.", HistoryEdgesTest::oldestIsDropped);
        Check.sentence("Returns how many changes can be undone then; NOT_POSSIBLE if there is none.",
            HistoryEdgesTest::nothingToUndo);
    }

    private static void saving() {
        Check.sentence("Saves everything except the pad, the history and the slots in a slot,",
            HistoryEdgesTest::saveKeepsEverything);
        Check.sentence("and overwrites what was saved there.", HistoryEdgesTest::saveOverwrites);
        Check.sentence("- `slot`: 0 or 1 Returns how many clubs there are in all; BAD_VALUE if there is no such slot.",
            HistoryEdgesTest::saveRefuses);
        Check.sentence("Restores what was saved last in a slot, which keeps it.", HistoryEdgesTest::slotKeepsIt);
        Check.sentence("Restores what was saved last in a slot, which keeps it. This is a change.",
            HistoryEdgesTest::restoreIsAChange);
        Check.sentence("- `slot`: 0 or 1 Returns how many clubs there are in all then; BAD_VALUE if there is no such slot; NOT_POSSIBLE if"
            + " nothing was saved in it.", HistoryEdgesTest::restoreRefuses);
    }

    /** One change, so that it can be made on any object. */
    private interface Change {
        int on(JugglerStates x);
    }

    /** Clubs come now, none in the beat 7, and some lie on the floor; five changes, and another scene in the slot 0. */
    private static JugglerStates scene() {
        JugglerStates x = Scenes.juggling("5p20", "3p41p", 1, 2);
        x.save(0);
        x.start(8, 8);
        x.pass(4);
        return x;
    }

    private static Change[] changes() {
        return new Change[] {
            x -> x.start(2, 2), x -> x.start(0, 0), x -> x.pass(1), x -> x.pass(200), x -> x.drop(0, 0),
            x -> x.drop(1, 0), x -> x.pick(0, 7), x -> x.pick(1, 7), x -> x.restore(0), HistoryEdgesTest::readForZero,
            HistoryEdgesTest::readForOne
        };
    }

    private static int readForZero(JugglerStates x) {
        Check.rewrite(x, "0:12p34p5670");
        return x.read();
    }

    private static int readForOne(JugglerStates x) {
        Check.rewrite(x, "1:7p");
        return x.read();
    }

    // ---- undo

    private static void undoOfEachChange() {
        for (int index = 0; index < changes().length; index++) {
            JugglerStates x = scene();
            String before = Sight.scene(x);
            Check.holds("change " + index + " is made", changes()[index].on(x) >= 0);
            Check.holds("change " + index + " is seen", !Sight.scene(x).equals(before));
            Check.due("undo", x.undo(), 5);
            Check.holds("change " + index + " is undone", Sight.scene(x).equals(before));
        }
    }

    private static void undoKeepsPadAndSlots() {
        JugglerStates x = new JugglerStates();
        x.start(3, 0);
        x.save(0);
        x.start(0, 5);
        x.save(1);
        Check.write(x, "531");
        Check.due("undo", x.undo(), 1);
        Check.due("the pad stays", x.pattern(1), 3);
        x.save(0);
        Check.due("undo", x.undo(), 0);
        Check.due("clubs", x.count(2), 0);
        Check.due("slot 0 stays", x.restore(0), 3);
        Check.due("slot 1 stays", x.restore(1), 5);
        Check.due("both are changes", x.count(6), 2);
        x.wipe();
        Check.due("undo brings no text back", x.undo(), 1);
        Check.due("length", x.count(5), 0);
        Check.program(x, "0:7");
        Check.due("undo of read", x.undo(), 1);
        Check.due("the pad stays empty", x.count(5), 0);
    }

    private static void sixStates() {
        JugglerStates x = new JugglerStates();
        for (int change = 1; change <= 7; change++) {
            x.start(change, 0);
            Check.due("behind " + change, x.count(6), Math.min(change, 6));
        }
        for (int left = 5; left >= 0; left--) {
            Check.due("undo", x.undo(), left);
        }
        Check.due("a seventh undo", x.undo(), JugglerStates.NOT_POSSIBLE);
        Check.due("the state behind the first change", x.count(2), 1);
    }

    private static void changesAreRecorded() {
        for (int index = 0; index < changes().length; index++) {
            JugglerStates x = scene();
            for (int left = x.count(6); left > 0; left--) {
                x.undo();
            }
            Check.due("no change", x.count(6), 0);
            x.start(8, 8);
            x.pass(4);
            Check.due("two changes", x.count(6), 2);
            changes()[index].on(x);
            Check.due("change " + index + " is one more", x.count(6), 3);
        }
        JugglerStates x = scene();
        int before = x.count(6);
        Check.write(x, "531");
        x.save(1);
        x.of(0, 0);
        x.thrown(0, 0, 0);
        x.firstDrop();
        x.comesRound();
        x.stateBehind(0, 9);
        x.pattern(0);
        x.back(0);
        x.way(0, 3, 0);
        x.howMany(3, 3);
        x.fault();
        x.wipe();
        Check.due("nothing else is a change", x.count(6), before);
    }

    private static void errorsAreNotRecorded() {
        JugglerStates x = new JugglerStates();
        x.start(3, 0);
        Change[] wrong = {
            y -> y.start(-1, 0), y -> y.start(0, 9), y -> y.read(), y -> y.pass(0), y -> y.pass(201), y -> y.drop(2, 0),
            y -> y.drop(0, 8), y -> y.drop(0, 3), y -> y.pick(2, 0), y -> y.pick(0, 8), y -> y.pick(0, 3),
            y -> y.restore(0), y -> y.restore(2), y -> y.save(2)
        };
        for (int index = 0; index < wrong.length; index++) {
            Check.holds("call " + index + " is refused", wrong[index].on(x) < 0);
            Check.due("changes behind it", x.count(6), 1);
        }
        Check.due("undo", x.undo(), 0);
        Check.due("no clubs", x.count(2), 0);
        Check.due("undo", x.undo(), JugglerStates.NOT_POSSIBLE);
        Check.due("undo of nothing is not recorded", x.count(6), 0);
    }

    private static void recordedWithoutADifference() {
        JugglerStates x = new JugglerStates();
        Check.due("start", x.start(0, 0), 0);
        Check.due("recorded", x.count(6), 1);
        Check.program(x, "1:0");
        Check.due("recorded", x.count(6), 2);
        x.save(1);
        Check.due("restore", x.restore(1), 0);
        Check.due("recorded", x.count(6), 3);
        Check.due("restore", x.restore(1), 0);
        Check.due("recorded", x.count(6), 4);
    }

    private static void oldestIsDropped() {
        for (int many = 7; many <= 20; many++) {
            JugglerStates x = new JugglerStates();
            for (int change = 1; change <= many; change++) {
                x.start(change & 7, change >> 3);
            }
            for (int change = many - 1; change >= many - 6; change--) {
                x.undo();
                Check.due("clubs of 0 before change " + (change + 1), x.of(0, 1), change & 7);
                Check.due("clubs of 1 before change " + (change + 1), x.of(1, 1), change >> 3);
            }
            Check.due("the one before is gone", x.undo(), JugglerStates.NOT_POSSIBLE);
            Check.due("clubs stay", x.of(0, 1), many - 6 & 7);
        }
        JugglerStates x = new JugglerStates();
        for (int round = 0; round < 10; round++) {
            for (int change = 0; change < 4; change++) {
                x.start(round % 8, change);
            }
            Check.due("undo", x.undo(), Math.min(6, 4 + 3 * round) - 1);
            Check.due("clubs", x.count(2), round % 8 + 2);
        }
    }

    private static void nothingToUndo() {
        JugglerStates x = new JugglerStates();
        Check.due("a new object", x.undo(), JugglerStates.NOT_POSSIBLE);
        x.start(1, 0);
        x.start(2, 0);
        Check.due("one is left", x.undo(), 1);
        Check.due("none is left", x.undo(), 0);
        Check.due("there is none", x.undo(), JugglerStates.NOT_POSSIBLE);
        Check.due("still none", x.undo(), JugglerStates.NOT_POSSIBLE);
        x.start(3, 0);
        Check.due("an undone change is not done again", x.undo(), 0);
        Check.due("clubs", x.count(2), 0);
    }

    // ---- save, restore

    private static void saveKeepsEverything() {
        for (int slot = 0; slot < 2; slot++) {
            JugglerStates x = Scenes.busy("0:12p");
            String saved = Sight.scene(x);
            Check.due("save", x.save(slot), 7);
            Check.holds("save changes nothing", Sight.scene(x).equals(saved));
            Check.due("the pad stays", x.count(5), 5);
            Check.due("the history stays", x.count(6), 6);
            x.read();
            Check.program(x, "1:7");
            x.start(8, 0);
            x.pass(9);
            Check.write(x, "531");
            int changes = x.count(6);
            Check.due("restore", x.restore(slot), 7);
            Check.holds("restored", Sight.scene(x).equals(saved));
            Check.due("the pad is not saved", x.pattern(1), 3);
            Check.due("the history is not saved", x.count(6), Math.min(6, changes + 1));
            x.restore(1 - slot);
            x.start(1, 1);
            x.save(1 - slot);
            Check.due("the slots are not saved", x.restore(slot), 7);
            Check.due("slot " + (1 - slot), x.restore(1 - slot), 2);
        }
    }

    private static void saveOverwrites() {
        for (int slot = 0; slot < 2; slot++) {
            JugglerStates x = new JugglerStates();
            x.start(8, 8);
            Check.due("save", x.save(slot), 16);
            Check.due("save", x.save(1 - slot), 16);
            x.start(1, 2);
            Check.due("save", x.save(slot), 3);
            x.start(0, 0);
            Check.due("overwritten", x.restore(slot), 3);
            Check.due("state of 1", x.of(1, 0), 3);
            Check.due("the other slot is not", x.restore(1 - slot), 16);
            x.undo();
            x.undo();
            Check.due("no clubs", x.save(slot), 0);
            Check.due("overwritten by none", x.restore(slot), 0);
        }
    }

    private static void saveRefuses() {
        JugglerStates x = new JugglerStates();
        for (int slot : NO_SLOTS) {
            Check.due("save(" + slot + ")", x.save(slot), JugglerStates.BAD_VALUE);
        }
        Check.due("nothing saved in 0", x.restore(0), JugglerStates.NOT_POSSIBLE);
        Check.due("nothing saved in 1", x.restore(1), JugglerStates.NOT_POSSIBLE);
        Check.due("no clubs", x.save(0), 0);
        x.start(8, 8);
        x.pass(3);
        Check.due("clubs to come and on the floor", x.save(1), 16);
        Check.due("save is no change", x.count(6), 2);
    }

    private static void slotKeepsIt() {
        for (int slot = 0; slot < 2; slot++) {
            JugglerStates x = Scenes.busy("");
            String saved = Sight.scene(x);
            x.save(slot);
            for (int turn = 0; turn < 3; turn++) {
                x.pass(1 + turn);
                Check.program(x, "0:44p");
                Check.due("restore", x.restore(slot), 7);
                Check.holds("restored, turn " + turn, Sight.scene(x).equals(saved));
            }
        }
    }

    private static void restoreIsAChange() {
        for (int slot = 0; slot < 2; slot++) {
            JugglerStates x = new JugglerStates();
            x.save(slot);
            Check.due("start", x.start(3, 3), 0);
            x.pass(2);
            String before = Sight.scene(x);
            Check.due("restore", x.restore(slot), 0);
            Check.due("changes", x.count(6), 3);
            Check.due("undo", x.undo(), 2);
            Check.holds("undone", Sight.scene(x).equals(before));
        }
    }

    private static void restoreRefuses() {
        JugglerStates x = new JugglerStates();
        Check.due("nothing saved in 0", x.restore(0), JugglerStates.NOT_POSSIBLE);
        Check.due("nothing saved in 1", x.restore(1), JugglerStates.NOT_POSSIBLE);
        for (int slot : NO_SLOTS) {
            Check.due("restore(" + slot + ")", x.restore(slot), JugglerStates.BAD_VALUE);
        }
        x.start(8, 8);
        x.pass(3);
        x.save(1);
        x.start(1, 0);
        Check.due("still nothing saved in 0", x.restore(0), JugglerStates.NOT_POSSIBLE);
        for (int slot : NO_SLOTS) {
            Check.due("restore(" + slot + ")", x.restore(slot), JugglerStates.BAD_VALUE);
        }
        Check.due("one club", x.count(2), 1);
        Check.due("with those on the floor", x.restore(1), 16);
        Check.due("clubs", x.count(2), 16);
    }
}
