/** The edges that the promises 7 to 12 name: a test for each sentence. */
public final class ViewEdgesTest {
    private static final int[] FAR = {Integer.MIN_VALUE, Integer.MIN_VALUE + 1, -256, 256, 65536, Integer.MAX_VALUE};

    public static void main(String[] args) {
        whatThereIs();
        whatWillBe();
        Check.finish();
    }

    private static void whatThereIs() {
        Check.sentence("- `what`: 0 the state, as a set of beats, 1 clubs to come, 2 throws of the program, 3 its place, 4"
            + " clubs that slipped, 5 clubs that clashed when this juggler threw them, since the start",
            ViewEdgesTest::ofTells);
        Check.sentence("5 clubs that clashed when this juggler threw them, since the start Returns the number; NO_SUCH if"
            + " there is no such juggler; BAD_VALUE if what is out of range.", ViewEdgesTest::ofRefuses);
        Check.sentence("Returns something about a throw of a program. - `place`: its place - `what`: 0 its height, 1"
            + " whether it is a pass (1 or 0)", ViewEdgesTest::thrownTells);
        Check.sentence("NO_SUCH if there is no such juggler or throw; BAD_VALUE if what is neither 0 nor 1.",
            ViewEdgesTest::thrownRefuses);
        Check.sentence("- `what`: 0 beats that have passed since the start, 1 clubs on the floor, 2 clubs in all",
            ViewEdgesTest::beatsAndClubs);
        Check.sentence("3 throws that were made since the start (with those that were dropped)",
            ViewEdgesTest::throwsMade);
        Check.sentence("4 passes that came on their way since the start", ViewEdgesTest::passesThatCame);
        Check.sentence("5 the length of the pad", ViewEdgesTest::lengthOfThePad);
        Check.sentence("6 how many changes can be undone", ViewEdgesTest::changesToUndo);
        Check.sentence("6 how many changes can be undone Returns the number; BAD_VALUE if what is out of range.",
            ViewEdgesTest::countRefuses);
    }

    private static void whatWillBe() {
        Check.sentence("what will be; nothing changes.", ViewEdgesTest::nothingChanges);
        Check.sentence("Tells in which beat from now on the first club is dropped, if nothing else happens (0: in the next"
            + " one to pass).", ViewEdgesTest::firstBeatWithADrop);
        Check.sentence("Returns the beat; NONE if none is dropped in 1000 beats.", ViewEdgesTest::noDrop);
        Check.sentence("Tells behind how many beats, 1 or more, both states and both places are as now for the first time,"
            + " if nothing else happens.", ViewEdgesTest::comesRoundFirst);
        Check.sentence("Returns how many; NONE if not behind 1000 beats.", ViewEdgesTest::comesRoundTooLate);
        Check.sentence("Tells the state of a juggler behind some beats, if nothing else happens. - `beats`: 1 to 200",
            ViewEdgesTest::stateBehindBeats);
        Check.sentence("Returns the state; NO_SUCH if there is no such juggler; BAD_VALUE if beats is out of range.",
            ViewEdgesTest::stateBehindRefuses);
    }

    // ---- what there is

    private static void ofTells() {
        for (int clubs = 0; clubs <= 8; clubs++) {
            JugglerStates x = Scenes.juggling("0", "0", clubs, 8 - clubs);
            Check.due("state", x.of(0, 0), (1 << clubs) - 1);
            Check.due("clubs to come", x.of(0, 1), clubs);
            Check.due("clubs to come", x.of(1, 1), 8 - clubs);
            x.pass(8);
            Check.due("clubs to come", x.of(0, 1) + x.of(1, 1), 0);
            Check.due("slips of 0", x.of(0, 4), clubs);
            Check.due("slips of 1", x.of(1, 4), 8 - clubs);
            Check.due("clashes", x.of(0, 5) + x.of(1, 5), 0);
        }
        JugglerStates x = Scenes.juggling("1p", "11111111", 1, 2);
        Check.due("both clubs clash with the second one of 1", x.pass(1), 2);
        Check.due("clashes of 0, which threw to 1", x.of(0, 5), 1);
        Check.due("clashes of 1", x.of(1, 5), 1);
        Check.due("slips", x.of(0, 4) + x.of(1, 4), 0);
        Check.due("throws", x.of(0, 2), 1);
        Check.due("throws", x.of(1, 2), 8);
        x.pass(6);
        Check.due("place", x.of(0, 3), 0);
        Check.due("last place", x.of(1, 3), 7);
        x.start(1, 2);
        Check.due("clashes since the start", x.of(0, 5) + x.of(1, 5), 0);
    }

    private static void ofRefuses() {
        JugglerStates x = Scenes.busy("");
        for (int juggler = 0; juggler < 2; juggler++) {
            Check.due("what -1", x.of(juggler, -1), JugglerStates.BAD_VALUE);
            Check.due("what 6", x.of(juggler, 6), JugglerStates.BAD_VALUE);
            for (int what : FAR) {
                Check.due("what " + what, x.of(juggler, what), JugglerStates.BAD_VALUE);
            }
            for (int what = 0; what <= 5; what++) {
                Check.holds("what " + what + " is told", x.of(juggler, what) >= 0);
            }
        }
        Check.due("juggler -1", x.of(-1, 0), JugglerStates.NO_SUCH);
        Check.due("juggler 2", x.of(2, 5), JugglerStates.NO_SUCH);
    }

    private static void thrownTells() {
        JugglerStates x = Scenes.juggling("70", "01p23p45p67p", 0, 0);
        for (int place = 0; place < 8; place++) {
            Check.due("height " + place, x.thrown(1, place, 0), place);
            Check.due("pass " + place, x.thrown(1, place, 1), place % 2);
        }
        Check.due("the first height", x.thrown(0, 0, 0), 7);
        Check.due("the last height", x.thrown(0, 1, 0), 0);
        Check.due("no pass", x.thrown(0, 0, 1), 0);
    }

    private static void thrownRefuses() {
        JugglerStates x = Scenes.juggling("7", "1p2p3p4p5p6p7p0", 0, 0);
        for (int what = 0; what < 2; what++) {
            Check.due("juggler -1", x.thrown(-1, 0, what), JugglerStates.NO_SUCH);
            Check.due("juggler 2", x.thrown(2, 0, what), JugglerStates.NO_SUCH);
            Check.due("place -1", x.thrown(0, -1, what), JugglerStates.NO_SUCH);
            Check.due("place 1 of one throw", x.thrown(0, 1, what), JugglerStates.NO_SUCH);
            Check.due("place 8 of eight throws", x.thrown(1, 8, what), JugglerStates.NO_SUCH);
            for (int place : FAR) {
                Check.due("place " + place, x.thrown(1, place, what), JugglerStates.NO_SUCH);
            }
        }
        Check.due("what -1", x.thrown(0, 0, -1), JugglerStates.BAD_VALUE);
        Check.due("what 2", x.thrown(1, 7, 2), JugglerStates.BAD_VALUE);
        for (int what : FAR) {
            Check.due("what " + what, x.thrown(0, 0, what), JugglerStates.BAD_VALUE);
        }
        Check.program(x, "1:12");
        Check.due("a throw of the program before", x.thrown(1, 2, 0), JugglerStates.NO_SUCH);
    }

    private static void beatsAndClubs() {
        JugglerStates x = new JugglerStates();
        Check.due("no beats", x.count(0), 0);
        Check.due("empty floor", x.count(1), 0);
        Check.due("no clubs", x.count(2), 0);
        x.start(8, 8);
        Check.due("clubs", x.count(2), 16);
        x.pass(7);
        Check.due("beats", x.count(0), 7);
        Check.due("floor", x.count(1), 14);
        Check.due("clubs", x.count(2), 16);
        x.pass(1);
        Check.due("all on the floor", x.count(1), 16);
        Check.due("clubs", x.count(2), 16);
        x = new JugglerStates();
        Scenes.passAll(x, 100000);
        Check.due("the most beats", x.count(0), 100000);
        x.start(1, 0);
        Check.due("since the start", x.count(0), 0);
    }

    private static void throwsMade() {
        JugglerStates x = Scenes.juggling("10", "1", 1, 2);
        Check.due("the 1 of 1 clashes", x.pass(1), 1);
        Check.due("with the clash", x.count(3), 2);
        Check.due("a slip of 0", x.pass(1), 1);
        Check.due("with the slip", x.count(3), 4);
        x.pass(1);
        Check.due("one throws on", x.count(3), 5);
        x.drop(1, 0);
        Check.due("drop is no throw", x.count(3), 5);
        x.pick(0, 0);
        Check.due("pick is no throw", x.count(3), 5);
        x.start(0, 0);
        Check.due("since the start", x.count(3), 0);
        x.pass(9);
        Check.due("no clubs, no throws", x.count(3), 0);
    }

    private static void passesThatCame() {
        JugglerStates x = Scenes.juggling("1p", "0", 2, 2);
        x.pass(1);
        Check.due("a pass that clashed", x.count(4), 0);
        Check.due("it did", x.of(0, 5), 1);
        x.pass(1);
        Check.due("a pass that came", x.count(4), 1);
        x.start(0, 1);
        Check.due("since the start", x.count(4), 0);
        x = Scenes.juggling("3p", "3", 1, 1);
        x.pass(1);
        Check.due("a pass that came, and was clashed with", x.count(4), 1);
        Check.due("it was", x.of(1, 5), 1);
        x = Scenes.juggling("3", "3", 3, 3);
        x.pass(30);
        Check.due("throws to oneself are none", x.count(4), 0);
    }

    private static void lengthOfThePad() {
        JugglerStates x = new JugglerStates();
        Check.due("empty", x.count(5), 0);
        for (int length = 1; length <= 30; length++) {
            x.put('!');
            Check.due("length", x.count(5), length);
        }
        x.put('!');
        Check.due("full", x.count(5), 30);
        x.wipe();
        Check.due("wiped", x.count(5), 0);
    }

    private static void changesToUndo() {
        JugglerStates x = new JugglerStates();
        Check.due("none", x.count(6), 0);
        for (int change = 1; change <= 20; change++) {
            x.pass(1);
            Check.due("behind " + change, x.count(6), Math.min(change, 6));
        }
        for (int left = 5; left >= 0; left--) {
            x.undo();
            Check.due("left", x.count(6), left);
        }
        x.undo();
        Check.due("none", x.count(6), 0);
    }

    private static void countRefuses() {
        JugglerStates x = Scenes.busy("12");
        Check.due("count(-1)", x.count(-1), JugglerStates.BAD_VALUE);
        Check.due("count(7)", x.count(7), JugglerStates.BAD_VALUE);
        for (int what : FAR) {
            Check.due("count(" + what + ")", x.count(what), JugglerStates.BAD_VALUE);
        }
        for (int what = 0; what <= 6; what++) {
            Check.holds("count(" + what + ") is told", x.count(what) > 0);
        }
    }

    // ---- what will be

    private static void nothingChanges() {
        JugglerStates x = Scenes.busy("0:3");
        JugglerStates y = Scenes.busy("0:3");
        Check.holds("a drop comes", x.firstDrop() >= 0);
        x.comesRound();
        x.stateBehind(0, 200);
        x.stateBehind(1, 1);
        String seen = Sight.everything(x);
        String due = Sight.everything(y);
        Check.holds("all is as before:\n" + seen + "\nis\n" + due, seen.equals(due));
    }

    private static void firstBeatWithADrop() {
        for (int beat = 0; beat <= 7; beat++) {
            Check.due("a slip of 0 in beat " + beat, Scenes.withStates(1 << beat, 0).firstDrop(), beat);
            Check.due("a slip of 1 in beat " + beat, Scenes.withStates(0, 1 << beat).firstDrop(), beat);
            Check.due("the first one of both", Scenes.withStates(128, 128 | 1 << beat).firstDrop(), beat);
        }
        Check.due("a clash at once", Scenes.juggling("2", "0", 3, 0).firstDrop(), 0);
        Check.due("a clash in the next beat", Scenes.juggling("31", "0", 3, 0).firstDrop(), 1);
        JugglerStates x = Scenes.juggling("0", "0", 2, 0);
        x.pass(1);
        Check.due("from now on, not from the start on", x.firstDrop(), 0);
        x.pass(1);
        Check.due("those on the floor are no drops to come", x.firstDrop(), JugglerStates.NONE);
    }

    private static void noDrop() {
        Check.due("no clubs", new JugglerStates().firstDrop(), JugglerStates.NONE);
        Check.due("a sound pattern", Scenes.juggling("531", "441", 3, 3).firstDrop(), JugglerStates.NONE);
        Check.due("a club to and fro", Scenes.juggling("1p", "1p", 1, 1).firstDrop(), JugglerStates.NONE);
        JugglerStates x = Scenes.juggling("7p7p7p7p7p7p76p", "07p7p7p7p7p7p", 0, 0);
        Scenes.setStates(x, 128, 0);
        Check.due("the latest drop that a search found", x.firstDrop(), 637);
        x = Scenes.juggling("7p7p7p7p7p7p76p", "07p7p7p7p7p7p", 8, 0);
        for (int beat = 0; beat < 7; beat++) {
            x.drop(0, beat);
        }
        Scenes.passAll(x, 637);
        Check.due("none so far", x.count(1), 7);
        Check.due("now it comes", x.firstDrop(), 0);
        Check.due("it is dropped", x.pass(1), 1);
        Check.due("none behind it", x.firstDrop(), JugglerStates.NONE);
        x = Scenes.juggling("1", "0", 1, 0);
        Scenes.passAll(x, 99900);
        Check.due("beyond the most beats", x.firstDrop(), JugglerStates.NONE);
        x = Scenes.juggling("1", "1p", 1, 0);
        Scenes.passAll(x, 100000);
        Check.program(x, "0:0");
        Check.due("a drop beyond the most beats", x.firstDrop(), 0);
    }

    private static void comesRoundFirst() {
        Check.due("no clubs, one throw each", new JugglerStates().comesRound(), 1);
        Check.due("behind one beat", Scenes.juggling("3", "5", 3, 5).comesRound(), 1);
        Check.due("the place of 0", Scenes.juggling("33", "5", 3, 5).comesRound(), 2);
        Check.due("the place of 1", Scenes.juggling("3", "55555", 3, 5).comesRound(), 5);
        Check.due("both places", Scenes.juggling("00000000", "0000000", 0, 0).comesRound(), 56);
        Check.due("the state of 0", Scenes.juggling("7", "1", 1, 1).comesRound(), 7);
        Check.due("the state of 1", Scenes.juggling("1", "6", 1, 1).comesRound(), 6);
        Check.due("both states", Scenes.juggling("7", "6", 1, 1).comesRound(), 42);
        Check.due("states that are alike before the places are", Scenes.juggling("1", "111", 1, 1).comesRound(), 3);
        JugglerStates x = Scenes.juggling("2", "0", 2, 0);
        x.pass(3);
        Check.due("as now, not as at the start", x.comesRound(), 1);
        // the 2 clashes with the second of three clubs, and the two that are left come round at once
        x = Scenes.juggling("2", "0", 3, 0);
        Check.due("never as now", x.comesRound(), JugglerStates.NONE);
        x.pass(1);
        Check.due("behind the clash", x.comesRound(), 1);
    }

    private static void comesRoundTooLate() {
        Check.due("the club slips", Scenes.juggling("0", "0", 1, 0).comesRound(), JugglerStates.NONE);
        Check.due("the club leaves for good", Scenes.juggling("1p", "1", 1, 0).comesRound(), JugglerStates.NONE);
        JugglerStates x = Scenes.juggling("56667", "675774", 0, 0);
        Scenes.setStates(x, 93, 37);
        Check.due("behind 900 beats", x.comesRound(), 900);
        Check.program(x, "1:6636662");
        Scenes.setStates(x, 93, 14);
        Check.due("not behind 1000 beats", x.comesRound(), JugglerStates.NONE);
        Scenes.passAll(x, 1050);
        Check.due("but behind 1050: state of 0", x.of(0, 0), 93);
        Check.due("state of 1", x.of(1, 0), 14);
        Check.due("places", x.of(0, 3) + x.of(1, 3), 0);
    }

    private static void stateBehindBeats() {
        JugglerStates x = Scenes.juggling("7", "6p", 1, 1);
        Check.due("7 behind 1", x.stateBehind(0, 1), 32 | 64);
        Check.due("6p behind 1", x.stateBehind(1, 1), 0);
        x = Scenes.juggling("7", "3", 1, 2);
        for (int beats = 1; beats <= 200; beats++) {
            Check.due("7 behind " + beats, x.stateBehind(0, beats), beats % 7 == 0 ? 1 : 1 << 7 - beats % 7);
        }
        Check.due("3 behind 199", x.stateBehind(1, 199), 5);
        Check.due("3 behind 200", x.stateBehind(1, 200), 6);
        x = Scenes.juggling("1", "0", 1, 0);
        Scenes.passAll(x, 100000);
        Check.due("beyond the most beats", x.stateBehind(0, 200), 1);
    }

    private static void stateBehindRefuses() {
        JugglerStates x = Scenes.juggling("3", "3", 3, 3);
        for (int juggler = 0; juggler < 2; juggler++) {
            Check.due("behind -1", x.stateBehind(juggler, -1), JugglerStates.BAD_VALUE);
            Check.due("behind 0", x.stateBehind(juggler, 0), JugglerStates.BAD_VALUE);
            Check.due("behind 201", x.stateBehind(juggler, 201), JugglerStates.BAD_VALUE);
            for (int beats : FAR) {
                Check.due("behind " + beats, x.stateBehind(juggler, beats), JugglerStates.BAD_VALUE);
            }
            Check.due("behind 1", x.stateBehind(juggler, 1), 7);
            Check.due("behind 200", x.stateBehind(juggler, 200), 7);
        }
        Check.due("juggler -1", x.stateBehind(-1, 1), JugglerStates.NO_SUCH);
        Check.due("juggler 2", x.stateBehind(2, 1), JugglerStates.NO_SUCH);
    }
}
