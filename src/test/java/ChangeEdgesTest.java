/** The edges that the promises 1 to 6 name: a test for each sentence. */
public final class ChangeEdgesTest {
    private static final int[] FAR = {Integer.MIN_VALUE, Integer.MIN_VALUE + 1, -256, 256, 65536, Integer.MAX_VALUE};

    public static void main(String[] args) {
        newObjectAndStart();
        readAndPass();
        dropAndPick();
        Check.finish();
    }

    private static void newObjectAndStart() {
        Check.sentence("Creates jugglers without clubs.", ChangeEdgesTest::newObject);
        Check.sentence("Gives both jugglers clubs: one in each beat from 0 on;", ChangeEdgesTest::clubsFromBeatZeroOn);
        Check.sentence("the floor is empty, both places are 0, nothing is counted so far.", ChangeEdgesTest::startsAnew);
        Check.sentence("(The programs stay.) This is a change.", ChangeEdgesTest::startIsAChange);
        Check.sentence("- `zero`: 0 to 8, clubs of the juggler 0", ChangeEdgesTest::clubsOfZero);
        Check.sentence("- `one`: 0 to 8, clubs of the juggler 1", ChangeEdgesTest::clubsOfOne);
        Check.sentence("Returns how many clubs there were (with those on the floor); BAD_VALUE if an argument is out of"
            + " range.", ChangeEdgesTest::clubsThereWere);
    }

    private static void readAndPass() {
        Check.sentence("Gives a juggler the program of the pad (its place is 0 then), and empties the pad. This is a"
            + " change.", ChangeEdgesTest::readTakesThePad);
        Check.sentence("Returns the juggler; BAD_TEXT if the pad has a fault as a program.", ChangeEdgesTest::readRefuses);
        Check.sentence("Lets beats pass. This is a change.", ChangeEdgesTest::passIsAChange);
        Check.sentence("Lets beats pass. This is a change. - `beats`: 1 to 200", ChangeEdgesTest::beatsOfPass);
        Check.sentence("Returns how many clubs are dropped in them; BAD_VALUE if beats is out of range;",
            ChangeEdgesTest::droppedInThem);
        Check.sentence("TOO_MANY if more than 100000 beats would have passed since the start.",
            ChangeEdgesTest::mostBeats);
    }

    private static void dropAndPick() {
        Check.sentence("A juggler drops a club that would come in a beat. This is a change. - `beat`: 0 to 7",
            ChangeEdgesTest::beatsOfDrop);
        Check.sentence("Returns how many clubs are on the floor then; NO_SUCH if there is no such juggler; BAD_VALUE if"
            + " beat is out of range; NOT_POSSIBLE if none would come then.", ChangeEdgesTest::dropOfNone);
        Check.sentence("A club is picked up from the floor, so that it comes to a juggler in a beat. This is a change. -"
            + " `beat`: 0 to 7", ChangeEdgesTest::beatsOfPick);
        Check.sentence("Returns how many clubs are on the floor then; NO_SUCH if there is no such juggler; BAD_VALUE if"
            + " beat is out of range; NOT_POSSIBLE if the floor is empty, or a club comes then already.",
            ChangeEdgesTest::pickWithoutRoom);
    }

    // ---- a new object, start

    private static void newObject() {
        JugglerStates x = new JugglerStates();
        for (int juggler = 0; juggler < 2; juggler++) {
            for (int what = 0; what <= 5; what++) {
                Check.due("of(" + juggler + ", " + what + ")", x.of(juggler, what), what == 2 ? 1 : 0);
            }
        }
        for (int what = 0; what <= 6; what++) {
            Check.due("count(" + what + ")", x.count(what), 0);
        }
        Check.due("fault of the empty pad", x.fault(), 0);
        Check.due("nothing is dropped", x.firstDrop(), JugglerStates.NONE);
        Check.due("nothing to undo", x.undo(), JugglerStates.NOT_POSSIBLE);
        Check.due("slot 0 is empty", x.restore(0), JugglerStates.NOT_POSSIBLE);
        Check.due("slot 1 is empty", x.restore(1), JugglerStates.NOT_POSSIBLE);
        JugglerStates other = new JugglerStates();
        x.start(3, 3);
        Check.due("another object has none", other.count(2), 0);
    }

    private static void clubsFromBeatZeroOn() {
        JugglerStates x = new JugglerStates();
        for (int zero = 0; zero <= 8; zero++) {
            for (int one = 0; one <= 8; one++) {
                x.start(zero, one);
                Check.due(zero + " clubs of 0", x.of(0, 0), (1 << zero) - 1);
                Check.due(one + " clubs of 1", x.of(1, 0), (1 << one) - 1);
            }
        }
    }

    private static void startsAnew() {
        JugglerStates x = Scenes.busy("");
        Check.due("start", x.start(0, 0), 7);
        Check.due("floor", x.count(1), 0);
        Check.due("all clubs", x.count(2), 0);
        for (int juggler = 0; juggler < 2; juggler++) {
            Check.due("place of " + juggler, x.of(juggler, 3), 0);
            Check.due("slips of " + juggler, x.of(juggler, 4), 0);
            Check.due("clashes of " + juggler, x.of(juggler, 5), 0);
        }
        Check.due("beats", x.count(0), 0);
        Check.due("throws", x.count(3), 0);
        Check.due("passes", x.count(4), 0);
        Check.due("no floor to pick from", x.pick(0, 0), JugglerStates.NOT_POSSIBLE);
    }

    private static void startIsAChange() {
        JugglerStates x = Scenes.juggling("5p20", "3p41p", 1, 1);
        String before = Sight.scene(x);
        Check.due("start", x.start(8, 8), 2);
        Check.due("throws of 0", x.of(0, 2), 3);
        Check.due("throws of 1", x.of(1, 2), 3);
        Check.due("a pass of 0", x.thrown(0, 0, 1), 1);
        Check.due("a height of 1", x.thrown(1, 1, 0), 4);
        Check.due("changes", x.count(6), 4);
        Check.due("undo", x.undo(), 3);
        Check.holds("undone", Sight.scene(x).equals(before));
    }

    private static void clubsOfZero() {
        JugglerStates x = new JugglerStates();
        Check.due("start(0, 3)", x.start(0, 3), 0);
        Check.due("start(8, 3)", x.start(8, 3), 3);
        Check.due("start(-1, 3)", x.start(-1, 3), JugglerStates.BAD_VALUE);
        Check.due("start(9, 3)", x.start(9, 3), JugglerStates.BAD_VALUE);
        for (int clubs : FAR) {
            Check.due("start(" + clubs + ", 3)", x.start(clubs, 3), JugglerStates.BAD_VALUE);
        }
        Check.due("clubs", x.count(2), 11);
        Check.due("changes", x.count(6), 2);
    }

    private static void clubsOfOne() {
        JugglerStates x = new JugglerStates();
        Check.due("start(3, 0)", x.start(3, 0), 0);
        Check.due("start(3, 8)", x.start(3, 8), 3);
        Check.due("start(3, -1)", x.start(3, -1), JugglerStates.BAD_VALUE);
        Check.due("start(3, 9)", x.start(3, 9), JugglerStates.BAD_VALUE);
        for (int clubs : FAR) {
            Check.due("start(3, " + clubs + ")", x.start(3, clubs), JugglerStates.BAD_VALUE);
        }
        Check.due("clubs", x.count(2), 11);
        Check.due("changes", x.count(6), 2);
    }

    private static void clubsThereWere() {
        JugglerStates x = new JugglerStates();
        Check.due("none", x.start(2, 1), 0);
        x.pass(1);
        Check.due("two slipped", x.count(1), 2);
        Check.due("with the floor", x.start(0, 0), 3);
        Check.due("none again", x.start(8, 8), 0);
        Check.due("all", x.start(8, 8), 16);
        x.pass(8);
        Check.due("all on the floor", x.start(1, 0), 16);
        Check.due("both out of range", x.start(-1, 9), JugglerStates.BAD_VALUE);
    }

    // ---- read, pass

    private static void readTakesThePad() {
        JugglerStates x = Scenes.juggling("111", "111", 1, 1);
        x.pass(2);
        Check.write(x, "0:4p5");
        String before = Sight.scene(x);
        Check.due("read", x.read(), 0);
        Check.due("place of 0", x.of(0, 3), 0);
        Check.due("place of 1 stays", x.of(1, 3), 2);
        Check.due("throws", x.of(0, 2), 2);
        Check.due("pad", x.count(5), 0);
        Check.due("read of the empty pad", x.read(), JugglerStates.BAD_TEXT);
        Check.due("changes", x.count(6), 5);
        Check.due("undo", x.undo(), 4);
        Check.holds("undone", Sight.scene(x).equals(before));
        Check.due("the pad stays empty", x.count(5), 0);
        Check.program(x, "1:7");
        Check.due("place of 0 stays", x.of(0, 3), 2);
        Check.due("place of 1", x.of(1, 3), 0);
        Check.program(x, "0:1p1p1p1p1p1p1p1p");
        Check.program(x, "0:45");
        Check.due("nothing is left of the program before", x.of(0, 2), 2);
        Check.due("the first throw is no pass", x.thrown(0, 0, 1), 0);
        Check.due("the second one neither", x.thrown(0, 1, 1), 0);
    }

    private static void readRefuses() {
        JugglerStates x = new JugglerStates();
        Check.due("empty", x.read(), JugglerStates.BAD_TEXT);
        for (String text : new String[] {"0", "1:", "2:3", "0:8", "1:0p", "0:3pp", "0:123456701", "0:3!", "3", "531"}) {
            Check.rewrite(x, text);
            Check.due("read of " + text, x.read(), JugglerStates.BAD_TEXT);
            Check.due("the pad keeps " + text, x.count(5), text.length());
        }
        Check.due("changes", x.count(6), 0);
        Check.rewrite(x, "0:3");
        Check.due("a program of 0", x.read(), 0);
        Check.rewrite(x, "1:3");
        Check.due("a program of 1", x.read(), 1);
        Check.rewrite(x, "1:1p2p3p4p5p6p7p0");
        Check.due("a long program", x.read(), 1);
    }

    private static void passIsAChange() {
        JugglerStates x = Scenes.juggling("31", "0", 2, 2);
        String before = Sight.scene(x);
        Check.due("pass", x.pass(3), 2);
        Check.due("beats", x.count(0), 3);
        Check.due("changes", x.count(6), 4);
        Check.due("undo", x.undo(), 3);
        Check.holds("undone", Sight.scene(x).equals(before));
    }

    private static void beatsOfPass() {
        JugglerStates x = new JugglerStates();
        Check.due("pass(0)", x.pass(0), JugglerStates.BAD_VALUE);
        Check.due("pass(201)", x.pass(201), JugglerStates.BAD_VALUE);
        Check.due("pass(-1)", x.pass(-1), JugglerStates.BAD_VALUE);
        for (int beats : FAR) {
            Check.due("pass(" + beats + ")", x.pass(beats), JugglerStates.BAD_VALUE);
        }
        Check.due("no beat", x.count(0), 0);
        Check.due("pass(1)", x.pass(1), 0);
        Check.due("one beat", x.count(0), 1);
        Check.due("pass(200)", x.pass(200), 0);
        Check.due("beats", x.count(0), 201);
    }

    private static void droppedInThem() {
        JugglerStates x = Scenes.juggling("0", "1", 8, 2);
        Check.due("one slips and one clashes", x.pass(1), 2);
        Check.due("two more slip, those before are not counted", x.pass(2), 2);
        Check.due("the last one of these beats counts", x.pass(5), 5);
        Check.due("none is left to drop", x.pass(200), 0);
        Check.due("floor", x.count(1), 9);
        x = Scenes.juggling("0", "0", 8, 8);
        Check.due("all drop", x.pass(200), 16);
        Check.due("none", x.pass(200), 0);
        x = Scenes.juggling("0", "0", 8, 8);
        Check.due("one beat ahead of the last", x.pass(7), 14);
        Check.due("the last", x.pass(1), 2);
    }

    private static void mostBeats() {
        JugglerStates x = new JugglerStates();
        Scenes.passAll(x, 99800);
        Check.due("100000 beats", x.pass(200), 0);
        Check.due("100001 beats", x.pass(1), JugglerStates.TOO_MANY);
        Check.due("beats", x.count(0), 100000);
        Check.due("undo", x.undo(), 5);
        Check.due("100001 beats again", x.pass(200), 0);
        Check.due("start", x.start(0, 0), 0);
        Check.due("since the start", x.pass(200), 0);
        x = new JugglerStates();
        x.save(1);
        Scenes.passAll(x, 99999);
        Check.due("two beats too far by one", x.pass(2), JugglerStates.TOO_MANY);
        Check.due("200 beats too far", x.pass(200), JugglerStates.TOO_MANY);
        Check.due("201 beats are too many at once", x.pass(201), JugglerStates.BAD_VALUE);
        Check.due("beats", x.count(0), 99999);
        Check.due("changes", x.count(6), 6);
        Check.due("one is left", x.pass(1), 0);
        Check.due("restored", x.restore(1), 0);
        Check.due("an earlier time", x.pass(1), 0);
        Check.due("beats", x.count(0), 1);
    }

    // ---- drop, pick

    private static void beatsOfDrop() {
        for (int juggler = 0; juggler < 2; juggler++) {
            JugglerStates x = new JugglerStates();
            x.start(8, 8);
            Check.due("drop of beat -1", x.drop(juggler, -1), JugglerStates.BAD_VALUE);
            Check.due("drop of beat 8", x.drop(juggler, 8), JugglerStates.BAD_VALUE);
            for (int beat : FAR) {
                Check.due("drop of beat " + beat, x.drop(juggler, beat), JugglerStates.BAD_VALUE);
            }
            Check.due("changes", x.count(6), 1);
            String before = Sight.scene(x);
            Check.due("drop of beat 7", x.drop(juggler, 7), 1);
            Check.due("undo", x.undo(), 1);
            Check.holds("undone", Sight.scene(x).equals(before));
            for (int beat = 0; beat <= 7; beat++) {
                Check.due("drop of beat " + beat, x.drop(juggler, beat), beat + 1);
                Check.due("state", x.of(juggler, 0), 255 & ~((2 << beat) - 1));
                Check.due("state of the other one", x.of(1 - juggler, 0), 255);
            }
        }
    }

    private static void dropOfNone() {
        JugglerStates x = Scenes.withStates(0, 129);
        Check.due("no club at all", x.drop(0, 0), JugglerStates.NOT_POSSIBLE);
        Check.due("no club at beat 7", x.drop(0, 7), JugglerStates.NOT_POSSIBLE);
        for (int beat = 1; beat <= 6; beat++) {
            Check.due("no club at beat " + beat, x.drop(1, beat), JugglerStates.NOT_POSSIBLE);
        }
        Check.due("the floor of both", x.drop(1, 7), 15);
        Check.due("twice", x.drop(1, 7), JugglerStates.NOT_POSSIBLE);
        Check.due("the last club", x.drop(1, 0), 16);
        Check.due("twice", x.drop(1, 0), JugglerStates.NOT_POSSIBLE);
        Check.due("no such juggler", x.drop(2, 0), JugglerStates.NO_SUCH);
        Check.due("no such juggler", x.drop(-1, 0), JugglerStates.NO_SUCH);
        Check.due("floor", x.count(1), 16);
    }

    private static void beatsOfPick() {
        for (int juggler = 0; juggler < 2; juggler++) {
            JugglerStates x = new JugglerStates();
            x.start(8, 8);
            x.pass(8);
            Check.due("pick in beat -1", x.pick(juggler, -1), JugglerStates.BAD_VALUE);
            Check.due("pick in beat 8", x.pick(juggler, 8), JugglerStates.BAD_VALUE);
            for (int beat : FAR) {
                Check.due("pick in beat " + beat, x.pick(juggler, beat), JugglerStates.BAD_VALUE);
            }
            Check.due("changes", x.count(6), 2);
            String before = Sight.scene(x);
            Check.due("pick in beat 7", x.pick(juggler, 7), 15);
            Check.due("undo", x.undo(), 2);
            Check.holds("undone", Sight.scene(x).equals(before));
            for (int beat = 0; beat <= 7; beat++) {
                Check.due("pick in beat " + beat, x.pick(juggler, beat), 15 - beat);
                Check.due("state", x.of(juggler, 0), (2 << beat) - 1);
                Check.due("state of the other one", x.of(1 - juggler, 0), 0);
            }
            Check.due("clubs stay", x.count(2), 16);
        }
    }

    private static void pickWithoutRoom() {
        JugglerStates x = new JugglerStates();
        Check.due("no clubs at all", x.pick(0, 0), JugglerStates.NOT_POSSIBLE);
        x.start(8, 7);
        Check.due("none on the floor", x.pick(1, 7), JugglerStates.NOT_POSSIBLE);
        x.drop(1, 6);
        for (int beat = 0; beat <= 7; beat++) {
            Check.due("a club comes to 0 in beat " + beat, x.pick(0, beat), JugglerStates.NOT_POSSIBLE);
        }
        Check.due("a club comes to 1 in beat 5", x.pick(1, 5), JugglerStates.NOT_POSSIBLE);
        Check.due("room for the last one", x.pick(1, 7), 0);
        Check.due("the floor is empty then", x.pick(1, 6), JugglerStates.NOT_POSSIBLE);
        Check.due("no such juggler", x.pick(2, 0), JugglerStates.NO_SUCH);
        Check.due("no such juggler", x.pick(-1, 0), JugglerStates.NO_SUCH);
    }
}
