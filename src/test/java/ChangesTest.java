/** Promises 1 to 6: a new object, start, read, pass, drop, pick. */
public final class ChangesTest {
    public static void main(String[] args) {
        newObject();
        startGivesClubs();
        startRefuses();
        startBeginsAnew();
        readGivesAProgram();
        readRefuses();
        readSetsOnePlace();
        passRefuses();
        passEndsBeyondTheMost();
        beatWithoutAClub();
        beatWithSlips();
        beatWithClashes();
        zeroThrowsFirst();
        passesCross();
        dropPutsOnTheFloor();
        dropRefuses();
        pickTakesFromTheFloor();
        pickRefuses();
        Check.finish();
    }

    private static void newObject() {
        JugglerStates x = new JugglerStates();
        for (int juggler = 0; juggler < 2; juggler++) {
            for (int what = 0; what <= 5; what++) {
                Check.due("new of(" + juggler + ", " + what + ")", x.of(juggler, what), what == 2 ? 1 : 0);
            }
            Check.due("new height", x.thrown(juggler, 0, 0), 0);
            Check.due("new pass", x.thrown(juggler, 0, 1), 0);
            Check.due("new has one throw", x.thrown(juggler, 1, 0), JugglerStates.NO_SUCH);
        }
        for (int what = 0; what <= 6; what++) {
            Check.due("new count(" + what + ")", x.count(what), 0);
        }
        Check.due("new undo", x.undo(), JugglerStates.NOT_POSSIBLE);
        Check.due("new restore(0)", x.restore(0), JugglerStates.NOT_POSSIBLE);
        Check.due("new restore(1)", x.restore(1), JugglerStates.NOT_POSSIBLE);
        Check.due("new pass(200)", x.pass(200), 0);
        Check.due("new beats", x.count(0), 200);
    }

    private static void startGivesClubs() {
        JugglerStates x = new JugglerStates();
        Check.due("start(3, 5)", x.start(3, 5), 0);
        Check.due("state of 0", x.of(0, 0), 7);
        Check.due("state of 1", x.of(1, 0), 31);
        Check.due("start(8, 0)", x.start(8, 0), 8);
        Check.due("state of 8 clubs", x.of(0, 0), 255);
        Check.due("state of no club", x.of(1, 0), 0);
        x.drop(0, 7);
        Check.due("start counts the floor", x.start(0, 8), 8);
        Check.due("state of 1", x.of(1, 0), 255);
        Check.due("floor is empty", x.count(1), 0);
        Check.due("start(8, 8)", x.start(8, 8), 8);
        Check.due("clubs", x.count(2), 16);
        Check.due("changes", x.count(6), 5);
    }

    private static void startRefuses() {
        JugglerStates x = new JugglerStates();
        x.start(2, 1);
        int[][] wrong = {{-1, 0}, {0, -1}, {9, 0}, {0, 9}, {Integer.MIN_VALUE, 3}, {3, Integer.MAX_VALUE}};
        for (int[] row : wrong) {
            Check.due("start(" + row[0] + ", " + row[1] + ")", x.start(row[0], row[1]), JugglerStates.BAD_VALUE);
        }
        Check.due("nothing changed", x.of(0, 0), 3);
        Check.due("nothing recorded", x.count(6), 1);
    }

    private static void startBeginsAnew() {
        JugglerStates x = new JugglerStates();
        Check.program(x, "0:41p0");
        Check.program(x, "1:4p6");
        x.start(5, 5);
        x.pass(5);
        Check.holds("slips before", x.of(0, 4) > 0);
        Check.holds("clashes before", x.of(0, 5) + x.of(1, 5) > 0);
        Check.holds("passes before", x.count(4) > 0);
        x.start(1, 1);
        for (int juggler = 0; juggler < 2; juggler++) {
            for (int what = 3; what <= 5; what++) {
                Check.due("of(" + juggler + ", " + what + ") anew", x.of(juggler, what), 0);
            }
        }
        for (int what : new int[] {0, 1, 3, 4}) {
            Check.due("count(" + what + ") anew", x.count(what), 0);
        }
        Check.due("program of 0 stays", x.of(0, 2), 3);
        Check.due("pass stays", x.thrown(0, 1, 1), 1);
        Check.due("program of 1 stays", x.thrown(1, 1, 0), 6);
    }

    private static void readGivesAProgram() {
        JugglerStates x = new JugglerStates();
        Check.write(x, "1:7p0123p456p");
        Check.due("read", x.read(), 1);
        int[] heights = {7, 0, 1, 2, 3, 4, 5, 6};
        int[] passes = {1, 0, 0, 0, 1, 0, 0, 1};
        Check.due("throws", x.of(1, 2), 8);
        for (int place = 0; place < 8; place++) {
            Check.due("height " + place, x.thrown(1, place, 0), heights[place]);
            Check.due("pass " + place, x.thrown(1, place, 1), passes[place]);
        }
        Check.due("pad is empty", x.count(5), 0);
        Check.due("the other one keeps its program", x.of(0, 2), 1);
        Check.program(x, "1:5");
        Check.due("shorter program", x.of(1, 2), 1);
        Check.due("new height", x.thrown(1, 0, 0), 5);
        Check.due("old pass is gone", x.thrown(1, 0, 1), 0);
        Check.due("changes", x.count(6), 2);
        x.undo();
        Check.due("undo brings the program", x.of(1, 2), 8);
        Check.due("but not the pad", x.count(5), 0);
    }

    private static void readRefuses() {
        String[] wrong = {"", "0", "0:", "2:3", "0:8", "0:0p", "0:3pp", "0:p", "0;3", "03", "0:333333333", "0:3x"};
        for (String text : wrong) {
            JugglerStates x = new JugglerStates();
            Check.write(x, text);
            Check.due("read of " + text, x.read(), JugglerStates.BAD_TEXT);
            Check.due("pad stays: " + text, x.count(5), text.length());
            Check.due("nothing recorded: " + text, x.count(6), 0);
            Check.due("program stays: " + text, x.of(0, 2), 1);
        }
    }

    private static void readSetsOnePlace() {
        JugglerStates x = new JugglerStates();
        Check.program(x, "0:123");
        Check.program(x, "1:1234");
        x.pass(5);
        Check.due("place of 0", x.of(0, 3), 2);
        Check.due("place of 1", x.of(1, 3), 1);
        Check.program(x, "0:4567");
        Check.due("place of 0 behind read", x.of(0, 3), 0);
        Check.due("place of 1 behind read", x.of(1, 3), 1);
        Check.due("beats stay", x.count(0), 5);
    }

    private static void passRefuses() {
        JugglerStates x = new JugglerStates();
        for (int beats : new int[] {0, -1, 201, Integer.MAX_VALUE, Integer.MIN_VALUE}) {
            Check.due("pass(" + beats + ")", x.pass(beats), JugglerStates.BAD_VALUE);
        }
        Check.due("nothing recorded", x.count(6), 0);
        Check.due("no beat", x.count(0), 0);
        Check.due("pass(1)", x.pass(1), 0);
        Check.due("pass(200)", x.pass(200), 0);
        Check.due("beats", x.count(0), 201);
    }

    private static void passEndsBeyondTheMost() {
        JugglerStates x = new JugglerStates();
        for (int call = 0; call < 499; call++) {
            x.pass(200);
        }
        Check.due("pass(199)", x.pass(199), 0);
        Check.due("one too many", x.pass(2), JugglerStates.TOO_MANY);
        Check.due("out of range comes first", x.pass(201), JugglerStates.BAD_VALUE);
        Check.due("beats", x.count(0), 99999);
        Check.due("the last one", x.pass(1), 0);
        Check.due("beats", x.count(0), 100000);
        Check.due("beyond the last one", x.pass(1), JugglerStates.TOO_MANY);
        Check.due("nothing recorded", x.undo(), 5);
        Check.due("beats", x.count(0), 99999);
        Check.due("start", x.start(0, 0), 0);
        Check.due("behind start", x.pass(1), 0);
    }

    private static void beatWithoutAClub() {
        JugglerStates x = new JugglerStates();
        Check.program(x, "0:03");
        x.start(1, 0);
        x.drop(0, 0);
        x.pick(0, 1);
        Check.due("nothing to throw", x.pass(1), 0);
        Check.due("no throw", x.count(3), 0);
        Check.due("the place goes on", x.of(0, 3), 1);
        Check.due("the club comes nearer", x.of(0, 0), 1);
        Check.due("throws the 3", x.pass(1), 0);
        Check.due("one throw", x.count(3), 1);
        Check.due("it comes in 2", x.of(0, 0), 4);
        Check.due("place comes round", x.of(0, 3), 0);
    }

    private static void beatWithSlips() {
        JugglerStates x = new JugglerStates();
        x.start(2, 3);
        Check.due("all slip", x.pass(200), 5);
        Check.due("slips of 0", x.of(0, 4), 2);
        Check.due("slips of 1", x.of(1, 4), 3);
        Check.due("no clash", x.of(0, 5) + x.of(1, 5), 0);
        Check.due("floor", x.count(1), 5);
        Check.due("clubs stay", x.count(2), 5);
        Check.due("slips are throws", x.count(3), 5);
        Check.due("nothing to come", x.of(0, 0) + x.of(1, 0), 0);
    }

    private static void beatWithClashes() {
        JugglerStates x = new JugglerStates();
        Check.program(x, "0:2");
        x.start(3, 0);
        Check.due("the club of beat 2 is hit", x.pass(1), 1);
        Check.due("clashes", x.of(0, 5), 1);
        Check.due("slips", x.of(0, 4), 0);
        Check.due("state", x.of(0, 0), 3);
        Check.due("floor", x.count(1), 1);
        Check.due("throws", x.count(3), 1);
        Check.due("no further drop", x.pass(100), 0);
        Check.due("floor", x.count(1), 1);
        Check.due("throws", x.count(3), 101);
        Check.program(x, "0:7");
        x.start(8, 0);
        Check.due("height 7 clashes with beat 7", x.pass(1), 1);
        Check.due("state", x.of(0, 0), 127);
        Check.due("and no more", x.pass(1), 0);
        Check.due("state", x.of(0, 0), 127);
    }

    private static void zeroThrowsFirst() {
        JugglerStates x = new JugglerStates();
        Check.program(x, "0:4p");
        Check.program(x, "1:4");
        x.start(1, 1);
        Check.due("both land with 1", x.pass(1), 1);
        Check.due("0 has not clashed", x.of(0, 5), 0);
        Check.due("1 has clashed", x.of(1, 5), 1);
        Check.due("state of 0", x.of(0, 0), 0);
        Check.due("state of 1", x.of(1, 0), 8);
        Check.due("the pass came", x.count(4), 1);
        Check.program(x, "0:4");
        Check.program(x, "1:4p");
        x.start(1, 1);
        Check.due("both land with 0", x.pass(1), 1);
        Check.due("0 has not clashed", x.of(0, 5), 0);
        Check.due("1 has clashed", x.of(1, 5), 1);
        Check.due("the pass did not come", x.count(4), 0);
        Check.due("two throws", x.count(3), 2);
    }

    private static void passesCross() {
        JugglerStates x = new JugglerStates();
        Check.program(x, "0:3p");
        Check.program(x, "1:1p");
        x.start(1, 1);
        Check.due("pass(1)", x.pass(1), 0);
        Check.due("0 gets the 1", x.of(0, 0), 1);
        Check.due("1 gets the 3", x.of(1, 0), 4);
        Check.due("passes", x.count(4), 2);
        Check.due("pass(1)", x.pass(1), 0);
        Check.due("0 has none", x.of(0, 0), 0);
        Check.due("1 has both", x.of(1, 0), 6);
        Check.due("passes", x.count(4), 3);
    }

    private static void dropPutsOnTheFloor() {
        JugglerStates x = new JugglerStates();
        x.start(8, 2);
        Check.due("drop(0, 7)", x.drop(0, 7), 1);
        Check.due("drop(0, 0)", x.drop(0, 0), 2);
        Check.due("drop(1, 1)", x.drop(1, 1), 3);
        Check.due("state of 0", x.of(0, 0), 126);
        Check.due("state of 1", x.of(1, 0), 1);
        Check.due("floor", x.count(1), 3);
        Check.due("clubs", x.count(2), 10);
        Check.due("no slip", x.of(0, 4) + x.of(1, 4), 0);
        Check.due("no clash", x.of(0, 5) + x.of(1, 5), 0);
        Check.due("no throw", x.count(3), 0);
        Check.due("changes", x.count(6), 4);
        Check.due("undo", x.undo(), 3);
        Check.due("state of 1", x.of(1, 0), 3);
    }

    private static void dropRefuses() {
        JugglerStates x = new JugglerStates();
        x.start(2, 0);
        Check.due("drop(2, 0)", x.drop(2, 0), JugglerStates.NO_SUCH);
        Check.due("drop(-1, 9)", x.drop(-1, 9), JugglerStates.NO_SUCH);
        Check.due("drop(0, 8)", x.drop(0, 8), JugglerStates.BAD_VALUE);
        Check.due("drop(0, -1)", x.drop(0, -1), JugglerStates.BAD_VALUE);
        Check.due("drop(0, 32)", x.drop(0, 32), JugglerStates.BAD_VALUE);
        Check.due("drop(0, 2)", x.drop(0, 2), JugglerStates.NOT_POSSIBLE);
        Check.due("drop(1, 0)", x.drop(1, 0), JugglerStates.NOT_POSSIBLE);
        Check.due("nothing recorded", x.count(6), 1);
        Check.due("floor", x.count(1), 0);
    }

    private static void pickTakesFromTheFloor() {
        JugglerStates x = new JugglerStates();
        x.start(3, 0);
        x.pass(3);
        Check.due("pick(1, 7)", x.pick(1, 7), 2);
        Check.due("pick(1, 0)", x.pick(1, 0), 1);
        Check.due("pick(0, 3)", x.pick(0, 3), 0);
        Check.due("state of 0", x.of(0, 0), 8);
        Check.due("state of 1", x.of(1, 0), 129);
        Check.due("clubs", x.count(2), 3);
        Check.due("slips stay", x.of(0, 4), 3);
        Check.due("changes", x.count(6), 5);
        Check.due("undo", x.undo(), 4);
        Check.due("floor", x.count(1), 1);
    }

    private static void pickRefuses() {
        JugglerStates x = new JugglerStates();
        x.start(1, 1);
        Check.due("empty floor", x.pick(0, 3), JugglerStates.NOT_POSSIBLE);
        x.drop(1, 0);
        Check.due("pick(2, 8)", x.pick(2, 8), JugglerStates.NO_SUCH);
        Check.due("pick(-1, 0)", x.pick(-1, 0), JugglerStates.NO_SUCH);
        Check.due("pick(0, 8)", x.pick(0, 8), JugglerStates.BAD_VALUE);
        Check.due("pick(0, -1)", x.pick(0, -1), JugglerStates.BAD_VALUE);
        Check.due("a club comes", x.pick(0, 0), JugglerStates.NOT_POSSIBLE);
        Check.due("nothing recorded", x.count(6), 2);
        Check.due("pick(1, 0)", x.pick(1, 0), 0);
    }
}
