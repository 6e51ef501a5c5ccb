/** Promises 10 to 12: firstDrop, comesRound, stateBehind. */
public final class ForecastTest {
    public static void main(String[] args) {
        firstDropTells();
        firstDropFarAhead();
        firstDropChangesNothing();
        comesRoundTells();
        comesRoundLate();
        comesRoundNever();
        stateBehindTells();
        stateBehindRefuses();
        Check.finish();
    }

    private static void firstDropTells() {
        Check.due("no clubs", new JugglerStates().firstDrop(), JugglerStates.NONE);
        Check.due("a slip at once", Scenes.juggling("0", "0", 1, 0).firstDrop(), 0);
        Check.due("a slip of the other one", Scenes.juggling("1", "110", 1, 1).firstDrop(), 2);
        Check.due("a clash at once", Scenes.juggling("1", "1", 2, 0).firstDrop(), 0);
        Check.due("3 with three clubs", Scenes.juggling("3", "3", 3, 3).firstDrop(), JugglerStates.NONE);
        Check.due("3 with four clubs", Scenes.juggling("3", "3", 3, 4).firstDrop(), 0);
        Check.due("531", Scenes.juggling("531", "531", 3, 3).firstDrop(), JugglerStates.NONE);
        Check.due("321", Scenes.juggling("321", "0", 2, 0).firstDrop(), 1);
        Check.due("pass into a throw", Scenes.juggling("2p", "3", 1, 0).firstDrop(), JugglerStates.NONE);
        JugglerStates x = Scenes.juggling("1", "1", 1, 1);
        x.drop(0, 0);
        Check.due("what lies on the floor is no drop to come", x.firstDrop(), JugglerStates.NONE);
    }

    private static void firstDropFarAhead() {
        JugglerStates x = Scenes.juggling("25p65301", "7p6603577", 0, 1);
        Check.due("far ahead", x.firstDrop(), 159);
        Check.due("none in the beats before", x.pass(159), 0);
        Check.due("now it comes", x.firstDrop(), 0);
        Check.due("it is dropped", x.pass(1), 1);
        Check.due("none behind it", x.firstDrop(), JugglerStates.NONE);
    }

    private static void firstDropChangesNothing() {
        JugglerStates x = Scenes.juggling("40", "0", 2, 1);
        int changes = x.count(6);
        Check.due("firstDrop", x.firstDrop(), 0);
        Check.due("floor", x.count(1), 0);
        Check.due("state of 0", x.of(0, 0), 3);
        Check.due("place", x.of(0, 3), 0);
        Check.due("slips", x.of(1, 4), 0);
        Check.due("throws", x.count(3), 0);
        Check.due("beats", x.count(0), 0);
        Check.due("changes", x.count(6), changes);
        Check.due("comesRound", x.comesRound(), JugglerStates.NONE);
        Check.due("stateBehind", x.stateBehind(0, 1), 9);
        Check.due("state of 0", x.of(0, 0), 3);
        Check.due("slips", x.of(1, 4), 0);
        Check.due("beats", x.count(0), 0);
        Check.due("changes", x.count(6), changes);
    }

    private static void comesRoundTells() {
        Check.due("no clubs", new JugglerStates().comesRound(), 1);
        Check.due("places alone", Scenes.juggling("0000000", "00000", 0, 0).comesRound(), 35);
        Check.due("3 with three clubs", Scenes.juggling("3", "0", 3, 0).comesRound(), 1);
        Check.due("3 with one club", Scenes.juggling("3", "0", 1, 0).comesRound(), 3);
        Check.due("three times 3", Scenes.juggling("333", "0", 3, 0).comesRound(), 3);
        Check.due("place of 1 counts", Scenes.juggling("3", "0000", 3, 0).comesRound(), 4);
        Check.due("one club and the place of 1", Scenes.juggling("3", "0000", 1, 0).comesRound(), 12);
        Check.due("state of 1 counts", Scenes.juggling("1", "5", 1, 1).comesRound(), 5);
        Check.due("a pass to and fro", Scenes.juggling("4p", "3p", 1, 0).comesRound(), 7);
        JugglerStates x = Scenes.juggling("441", "7", 3, 0);
        x.pass(2);
        Check.due("counted from now on", x.comesRound(), 3);
    }

    private static void comesRoundLate() {
        JugglerStates x = Scenes.juggling("56667", "675774", 0, 0);
        Scenes.setStates(x, 93, 37);
        Check.due("behind 900 beats", x.comesRound(), 900);
        Check.program(x, "1:6636662");
        Scenes.setStates(x, 93, 14);
        Check.due("behind 1050 beats would be too late", x.comesRound(), JugglerStates.NONE);
        for (int call = 0; call < 5; call++) {
            Check.due("no drop", x.pass(200), 0);
        }
        Check.due("beats", x.pass(50), 0);
        Check.due("there it is", x.of(0, 0), 93);
        Check.due("there it is", x.of(1, 0), 14);
    }

    private static void comesRoundNever() {
        Check.due("a club slips", Scenes.juggling("0", "0", 1, 0).comesRound(), JugglerStates.NONE);
        Check.due("a club leaves for good", Scenes.juggling("1p", "1", 1, 0).comesRound(), JugglerStates.NONE);
        Check.due("a gap that closes", Scenes.juggling("2", "1", 2, 2).comesRound(), JugglerStates.NONE);
    }

    private static void stateBehindTells() {
        JugglerStates x = Scenes.juggling("531", "4p1", 3, 1);
        for (int beats = 1; beats <= 30; beats++) {
            JugglerStates played = Scenes.juggling("531", "4p1", 3, 1);
            played.pass(beats);
            Check.due("state of 0 behind " + beats, x.stateBehind(0, beats), played.of(0, 0));
            Check.due("state of 1 behind " + beats, x.stateBehind(1, beats), played.of(1, 0));
        }
        JugglerStates one = Scenes.juggling("7", "1", 1, 1);
        Check.due("7 behind 1", one.stateBehind(0, 1), 64);
        Check.due("7 behind 7", one.stateBehind(0, 7), 1);
        Check.due("7 behind 200", one.stateBehind(0, 200), 8);
        Check.due("1 behind 200", one.stateBehind(1, 200), 1);
        Check.due("of now", one.of(0, 0), 1);
        Scenes.passAll(one, 20000);
        Check.due("much later", one.stateBehind(1, 200), 1);
    }

    private static void stateBehindRefuses() {
        JugglerStates x = Scenes.juggling("3", "3", 3, 3);
        Check.due("stateBehind(2, 0)", x.stateBehind(2, 0), JugglerStates.NO_SUCH);
        Check.due("stateBehind(-1, 1)", x.stateBehind(-1, 1), JugglerStates.NO_SUCH);
        Check.due("stateBehind(0, 0)", x.stateBehind(0, 0), JugglerStates.BAD_VALUE);
        Check.due("stateBehind(1, 201)", x.stateBehind(1, 201), JugglerStates.BAD_VALUE);
        Check.due("stateBehind(1, -5)", x.stateBehind(1, -5), JugglerStates.BAD_VALUE);
    }
}
