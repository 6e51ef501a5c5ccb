/** The edges that the document names in "Terms", up to what a beat is: a test for each sentence. */
public final class TermsEdgesTest {
    private static final int[] NO_JUGGLERS = {-1, 2, 3, Integer.MIN_VALUE, Integer.MAX_VALUE};

    /** One call, so that it can be made on any object. */
    private interface Call {
        int on(JugglerStates x);
    }

    public static void main(String[] args) {
        conventions();
        jugglers();
        beats();
        Check.finish();
    }

    private static void conventions() {
        Check.sentence("An object is used for at most 512 calls after it has been made; what later calls answer is free.",
            TermsEdgesTest::lastCall);
        Check.sentence("NO_SUCH = -1, BAD_VALUE = -2, BAD_TEXT = -3, TOO_MANY = -4, NOT_POSSIBLE = -5, NONE = -6: Error codes,"
            + " and NONE: there is none.", TermsEdgesTest::constants);
        Check.sentence("A method that fails returns one of the error codes NO_SUCH (-1), BAD_VALUE (-2), BAD_TEXT (-3),"
            + " TOO_MANY (-4) and NOT_POSSIBLE (-5)", TermsEdgesTest::codes);
        Check.sentence("it names its errors in the order in which they are checked, and the first one that applies is"
            + " returned.", TermsEdgesTest::firstErrorWins);
        Check.sentence("A call that returns an error changes nothing.", TermsEdgesTest::errorsChangeNothing);
        Check.sentence("NONE (-6) is not an error; it is returned only if no error applies.", TermsEdgesTest::noneComesLast);
        Check.sentence("Everything is numbered from 0.", TermsEdgesTest::numberedFromZero);
    }

    private static void jugglers() {
        Check.sentence("There are two jugglers, 0 and 1.", TermsEdgesTest::twoJugglers);
        Check.sentence("The state of a juggler is a set of beats, 0 to 7: the beat k is in it if a club comes into the"
            + " juggler's hand k beats from now (0: now, to be thrown).", TermsEdgesTest::stateIsASetOfBeats);
        Check.sentence("A dropped club lies on the floor.", TermsEdgesTest::droppedLiesOnTheFloor);
        Check.sentence("(At first there are no clubs.)", TermsEdgesTest::noClubsAtFirst);
        Check.sentence("A throw has a height (0 to 7), and is a pass or not.", TermsEdgesTest::heights);
        Check.sentence("The program of a juggler is a row of 1 to 8 throws", TermsEdgesTest::oneToEightThrows);
        Check.sentence("(at first the one throw with the height 0, no pass)", TermsEdgesTest::programAtFirst);
        Check.sentence("its place is that of the throw that comes next, 0 at first", TermsEdgesTest::placeAtFirst);
        Check.sentence("behind its last throw comes the first one.", TermsEdgesTest::firstComesBehindLast);
    }

    private static void beats() {
        Check.sentence("In a beat the juggler 0 throws, then the juggler 1:", TermsEdgesTest::zeroThrowsFirst);
        Check.sentence("A juggler with no club in the hand (the beat 0 is not in the state) throws nothing, whatever the"
            + " program says.", TermsEdgesTest::emptyHandThrowsNothing);
        Check.sentence("with the height 0 the club is dropped (it slips).", TermsEdgesTest::heightZeroSlips);
        Check.sentence("Otherwise it goes to the juggler, or, if it is a pass, to the other one, and comes there as many"
            + " beats from now as its height tells", TermsEdgesTest::comesAsItsHeightTells);
        Check.sentence("if a club comes there in that beat already, it is dropped (they clash).", TermsEdgesTest::clashes);
        Check.sentence("Then, for both, the place goes on by one throw (also if nothing was thrown)",
            TermsEdgesTest::placesGoOn);
        Check.sentence("the beat 0 leaves the state, and each other beat of it becomes one less.",
            TermsEdgesTest::beatsBecomeLess);
    }

    // ---- conventions

    private static void lastCall() {
        JugglerStates x = Scenes.juggling("531", "3p", 3, 0);
        int clubs = 3;
        for (int call = 8; call <= 512; call++) {
            Check.due("call " + call, x.start(call % 9, call % 8), clubs);
            clubs = call % 9 + call % 8;
        }
    }

    private static void constants() {
        Check.due("NO_SUCH", JugglerStates.NO_SUCH, -1);
        Check.due("BAD_VALUE", JugglerStates.BAD_VALUE, -2);
        Check.due("BAD_TEXT", JugglerStates.BAD_TEXT, -3);
        Check.due("TOO_MANY", JugglerStates.TOO_MANY, -4);
        Check.due("NOT_POSSIBLE", JugglerStates.NOT_POSSIBLE, -5);
        Check.due("NONE", JugglerStates.NONE, -6);
        Check.due("there is none", new JugglerStates().firstDrop(), -6);
    }

    private static void codes() {
        Check.due("no such juggler", new JugglerStates().of(2, 0), -1);
        Check.due("no such what", new JugglerStates().of(0, 6), -2);
        Check.due("empty pad", new JugglerStates().read(), -3);
        Check.due("31 characters", Scenes.withPad("333333333333333333333333333333").put('3'), -4);
        Check.due("nothing to undo", new JugglerStates().undo(), -5);
    }

    private static void firstErrorWins() {
        JugglerStates x = new JugglerStates();
        Check.due("drop(2, 8)", x.drop(2, 8), JugglerStates.NO_SUCH);
        Check.due("drop(0, 8) of no clubs", x.drop(0, 8), JugglerStates.BAD_VALUE);
        Check.due("pick(2, 8)", x.pick(2, 8), JugglerStates.NO_SUCH);
        Check.due("pick(-1, 0) from the empty floor", x.pick(-1, 0), JugglerStates.NO_SUCH);
        Check.due("pick(0, -1) from the empty floor", x.pick(0, -1), JugglerStates.BAD_VALUE);
        Check.due("of(2, 6)", x.of(2, 6), JugglerStates.NO_SUCH);
        Check.due("thrown(2, 0, 2)", x.thrown(2, 0, 2), JugglerStates.NO_SUCH);
        Check.due("thrown(0, 1, 2)", x.thrown(0, 1, 2), JugglerStates.NO_SUCH);
        Check.due("stateBehind(2, 0)", x.stateBehind(2, 0), JugglerStates.NO_SUCH);
        Check.due("pattern(7) of an empty pad", x.pattern(7), JugglerStates.BAD_TEXT);
        Check.due("back(0) of an empty pad", x.back(0), JugglerStates.BAD_TEXT);
        Check.due("way(2, 256, 3)", x.way(2, 256, 3), JugglerStates.NO_SUCH);
        Check.due("way(2, 1, 0), and there is none", x.way(2, 1, 0), JugglerStates.NO_SUCH);
        Check.due("way(0, 1, 3), and there is none", x.way(0, 1, 3), JugglerStates.BAD_VALUE);
        Check.due("restore(2), and nothing was saved", x.restore(2), JugglerStates.BAD_VALUE);
        Check.due("pattern(-1), and it is not sound", Scenes.withPad("321").pattern(-1), JugglerStates.BAD_VALUE);
        Check.due("pattern(1) of a program", Scenes.withPad("0:321").pattern(1), JugglerStates.BAD_TEXT);
        Check.due("back(3), and it is not sound", Scenes.withPad("321").back(3), JugglerStates.NO_SUCH);
        Check.due("back(0) with a pass", Scenes.withPad("32p1").back(0), JugglerStates.BAD_TEXT);
        x = Scenes.withPad("333333333333333333333333333333");
        Check.due("a wrong character to a full pad", x.put(' '), JugglerStates.BAD_VALUE);
        Scenes.passAll(x, 100000);
        Check.due("pass(201) behind the most beats", x.pass(201), JugglerStates.BAD_VALUE);
        Check.due("pass(0) behind the most beats", x.pass(0), JugglerStates.BAD_VALUE);
    }

    private static void errorsChangeNothing() {
        refusedChanges("0:3");
        refusedTexts();
        refusedViews("0:3");
        refusedViews("321");
        refusedHistory();
        refusedBeats();
    }

    private static void refusedChanges(String pad) {
        refused(pad, "start(9, 0)", JugglerStates.BAD_VALUE, x -> x.start(9, 0));
        refused(pad, "start(0, -1)", JugglerStates.BAD_VALUE, x -> x.start(0, -1));
        refused(pad, "pass(0)", JugglerStates.BAD_VALUE, x -> x.pass(0));
        refused(pad, "pass(201)", JugglerStates.BAD_VALUE, x -> x.pass(201));
        refused(pad, "drop(2, 0)", JugglerStates.NO_SUCH, x -> x.drop(2, 0));
        refused(pad, "drop(-1, 0)", JugglerStates.NO_SUCH, x -> x.drop(-1, 0));
        refused(pad, "drop(0, 8)", JugglerStates.BAD_VALUE, x -> x.drop(0, 8));
        refused(pad, "drop(1, -1)", JugglerStates.BAD_VALUE, x -> x.drop(1, -1));
        refused(pad, "pick(2, 7)", JugglerStates.NO_SUCH, x -> x.pick(2, 7));
        refused(pad, "pick(-1, 7)", JugglerStates.NO_SUCH, x -> x.pick(-1, 7));
        refused(pad, "pick(0, 8)", JugglerStates.BAD_VALUE, x -> x.pick(0, 8));
        refused(pad, "pick(1, -1)", JugglerStates.BAD_VALUE, x -> x.pick(1, -1));
        for (int juggler = 0; juggler < 2; juggler++) {
            int thrower = juggler;
            int come = Integer.numberOfTrailingZeros(Scenes.busy(pad).of(thrower, 0));
            int free = Integer.numberOfTrailingZeros(~Scenes.busy(pad).of(thrower, 0));
            refused(pad, "drop of none", JugglerStates.NOT_POSSIBLE, x -> x.drop(thrower, free));
            refused(pad, "pick into a club", JugglerStates.NOT_POSSIBLE, x -> x.pick(thrower, come));
        }
    }

    private static void refusedTexts() {
        for (String pad : new String[] {"", "0", "0:", "3", "531", "2:3", "0:0p"}) {
            refused(pad, "read()", JugglerStates.BAD_TEXT, x -> x.read());
        }
        refused("0:", "put(0)", JugglerStates.BAD_VALUE, x -> x.put(0));
        refused("0:", "put of 3, then a wrong one", JugglerStates.BAD_VALUE, x -> x.put('3' << 8 | ' '));
        refused("0:", "put of a wrong one, then 3", JugglerStates.BAD_VALUE, x -> x.put(127 << 8 | '3'));
        refused("0:", "put of 3, with a gap above", JugglerStates.BAD_VALUE, x -> x.put(1 << 16 | '3'));
        refused("0:3p!!!!!!!!!!!!!!!!!!!!!!!!!!", "put('3') to 30", JugglerStates.TOO_MANY, x -> x.put('3'));
        refused("0:3p!!!!!!!!!!!!!!!!!!!!!!!!!", "put of two to 29", JugglerStates.TOO_MANY, x -> x.put('3' << 8 | '3'));
    }

    private static void refusedViews(String pad) {
        refused(pad, "of(2, 0)", JugglerStates.NO_SUCH, x -> x.of(2, 0));
        refused(pad, "of(0, 6)", JugglerStates.BAD_VALUE, x -> x.of(0, 6));
        refused(pad, "thrown(0, 3, 0)", JugglerStates.NO_SUCH, x -> x.thrown(0, 3, 0));
        refused(pad, "thrown(1, 2, 2)", JugglerStates.BAD_VALUE, x -> x.thrown(1, 2, 2));
        refused(pad, "count(7)", JugglerStates.BAD_VALUE, x -> x.count(7));
        refused(pad, "stateBehind(2, 9)", JugglerStates.NO_SUCH, x -> x.stateBehind(2, 9));
        refused(pad, "stateBehind(0, 201)", JugglerStates.BAD_VALUE, x -> x.stateBehind(0, 201));
        boolean isPattern = pad.equals("321");
        int due = isPattern ? JugglerStates.NOT_POSSIBLE : JugglerStates.BAD_TEXT;
        refused(pad, "pattern(1)", due, x -> x.pattern(1));
        refused(pad, "back(0)", due, x -> x.back(0));
        refused(pad, "pattern(7)", isPattern ? JugglerStates.BAD_VALUE : JugglerStates.BAD_TEXT, x -> x.pattern(7));
        refused(pad, "back(3)", isPattern ? JugglerStates.NO_SUCH : JugglerStates.BAD_TEXT, x -> x.back(3));
        refused(pad, "way(2, 0, 0)", JugglerStates.NO_SUCH, x -> x.way(2, 0, 0));
        refused(pad, "way(0, 256, 0)", JugglerStates.BAD_VALUE, x -> x.way(0, 256, 0));
        refused(pad, "way(0, 255, 0)", JugglerStates.NOT_POSSIBLE, x -> x.way(0, 255, 0));
        refused(pad, "howMany(6, 0)", JugglerStates.BAD_VALUE, x -> x.howMany(6, 0));
    }

    private static void refusedHistory() {
        refused("0:3", "save(2)", JugglerStates.BAD_VALUE, x -> x.save(2));
        refused("0:3", "save(-1)", JugglerStates.BAD_VALUE, x -> x.save(-1));
        refused("0:3", "restore(2)", JugglerStates.BAD_VALUE, x -> x.restore(2));
        refused("0:3", "restore(-1)", JugglerStates.BAD_VALUE, x -> x.restore(-1));
        for (int slot = 0; slot < 2; slot++) {
            int empty = slot;
            JugglerStates x = Scenes.juggling("31", "5p0", 2, 2);
            JugglerStates y = Scenes.juggling("31", "5p0", 2, 2);
            Check.due("restore of an empty slot", x.restore(empty), JugglerStates.NOT_POSSIBLE);
            same("restore of an empty slot", x, y);
        }
        JugglerStates x = Scenes.busy("0:3");
        JugglerStates y = Scenes.busy("0:3");
        for (int left = 5; left >= 0; left--) {
            Check.due("undo", x.undo(), left);
            Check.due("undo", y.undo(), left);
        }
        Check.due("undo of nothing", x.undo(), JugglerStates.NOT_POSSIBLE);
        same("undo of nothing", x, y);
        x = Scenes.juggling("31", "5p0", 2, 2);
        y = Scenes.juggling("31", "5p0", 2, 2);
        Check.due("pick from an empty floor", x.pick(0, 5), JugglerStates.NOT_POSSIBLE);
        same("pick from an empty floor", x, y);
    }

    /** So many beats use up most of an object's calls: one object more for the history. */
    private static void refusedBeats() {
        String[] seen = new String[2];
        for (int turn = 0; turn < 2; turn++) {
            JugglerStates x = new JugglerStates();
            Check.program(x, "0:3");
            x.start(2, 1);
            Scenes.passAll(x, 99900);
            if (turn == 0) {
                Check.due("pass(101)", x.pass(101), JugglerStates.TOO_MANY);
            }
            seen[turn] = x.count(0) + " " + x.of(0, 0) + " " + x.count(6) + " " + x.undo() + " " + x.count(0);
        }
        Check.holds("pass(101) behind 99900 beats changes nothing: " + seen[0] + " is " + seen[1], seen[0].equals(seen[1]));
    }

    private static void refused(String pad, String name, int due, Call call) {
        JugglerStates x = Scenes.busy(pad);
        JugglerStates y = Scenes.busy(pad);
        Check.due(name + " with the pad " + pad, call.on(x), due);
        same(name, x, y);
    }

    private static void same(String name, JugglerStates x, JugglerStates y) {
        String seen = Sight.everything(x);
        String due = Sight.everything(y);
        Check.holds(name + " changes nothing:\n" + seen + "\nis\n" + due, seen.equals(due));
    }

    private static void noneComesLast() {
        JugglerStates x = Scenes.juggling("3", "3", 3, 2);
        Check.due("no throws", x.way(0, 7, 1), JugglerStates.NONE);
        Check.due("no throws, no such what", x.way(0, 7, 3), JugglerStates.BAD_VALUE);
        Check.due("no throws, no such juggler", x.way(2, 7, 1), JugglerStates.NO_SUCH);
        Check.due("no such state", x.way(0, 256, 1), JugglerStates.BAD_VALUE);
        Check.due("no way", x.way(0, 3, 1), JugglerStates.NOT_POSSIBLE);
        Check.due("no such juggler, and nothing to come", x.stateBehind(2, 1), JugglerStates.NO_SUCH);
    }

    private static void numberedFromZero() {
        JugglerStates x = Scenes.juggling("42", "51", 1, 2);
        Check.due("the first juggler", x.of(0, 0), 1);
        Check.due("the second one", x.of(1, 0), 3);
        Check.due("the first throw", x.thrown(0, 0, 0), 4);
        Check.due("the second one", x.thrown(0, 1, 0), 2);
        Check.due("the first beat", x.drop(1, 0), 1);
        Check.due("the second beat is left", x.of(1, 0), 2);
        Check.due("the first slot", x.save(0), 3);
        Check.due("the second one", x.save(1), 3);
        Check.due("the first character", Scenes.withPad("!").fault(), 0);
        Check.due("the first place", Scenes.withPad("612").back(0), 1);
        Check.due("the next beat to pass", Scenes.juggling("0", "0", 1, 0).firstDrop(), 0);
    }

    // ---- jugglers, clubs

    private static void twoJugglers() {
        JugglerStates x = Scenes.juggling("3", "3", 3, 3);
        x.drop(0, 2);
        for (int juggler : NO_JUGGLERS) {
            Check.due("drop(" + juggler + ", 0)", x.drop(juggler, 0), JugglerStates.NO_SUCH);
            Check.due("pick(" + juggler + ", 7)", x.pick(juggler, 7), JugglerStates.NO_SUCH);
            Check.due("of(" + juggler + ", 0)", x.of(juggler, 0), JugglerStates.NO_SUCH);
            Check.due("thrown(" + juggler + ", 0, 0)", x.thrown(juggler, 0, 0), JugglerStates.NO_SUCH);
            Check.due("stateBehind(" + juggler + ", 1)", x.stateBehind(juggler, 1), JugglerStates.NO_SUCH);
            Check.due("way(" + juggler + ", 7, 0)", x.way(juggler, 7, 0), JugglerStates.NO_SUCH);
        }
        for (int juggler = 0; juggler < 2; juggler++) {
            Check.due("drop(" + juggler + ", 0)", x.drop(juggler, 0), 2);
            Check.due("pick(" + juggler + ", 7)", x.pick(juggler, 7), 1);
            Check.due("of(" + juggler + ", 0)", x.of(juggler, 0), juggler == 0 ? 130 : 134);
            Check.due("thrown(" + juggler + ", 0, 0)", x.thrown(juggler, 0, 0), 3);
            Check.due("stateBehind(" + juggler + ", 1)", x.stateBehind(juggler, 1), juggler == 0 ? 65 : 67);
            Check.due("way(" + juggler + ")", x.way(juggler, juggler == 0 ? 65 : 67, 0), 1);
        }
    }

    private static void stateIsASetOfBeats() {
        for (int beat = 0; beat < 8; beat++) {
            JugglerStates x = Scenes.withStates(1 << beat, 0);
            Check.due("the club slips behind " + beat, x.firstDrop(), beat);
            x = Scenes.withStates(0, 1 << beat);
            Check.due("the club of 1 slips behind " + beat, x.firstDrop(), beat);
            Check.due("it is dropped then", x.pass(beat + 1), 1);
            Check.due("and was thrown then", x.count(3), 1);
        }
        Check.due("all beats", Scenes.withStates(255, 255).of(1, 0), 255);
    }

    private static void droppedLiesOnTheFloor() {
        JugglerStates x = Scenes.juggling("0", "1", 1, 3);
        Check.due("a slip and a clash", x.pass(1), 2);
        Check.due("floor", x.count(1), 2);
        Check.due("drop", x.drop(1, 1), 3);
        Check.due("floor", x.count(1), 3);
        Check.due("all clubs", x.count(2), 4);
    }

    private static void noClubsAtFirst() {
        JugglerStates x = new JugglerStates();
        Check.due("state of 0", x.of(0, 0), 0);
        Check.due("state of 1", x.of(1, 0), 0);
        Check.due("floor", x.count(1), 0);
        Check.due("clubs", x.count(2), 0);
        Check.due("pick", x.pick(0, 0), JugglerStates.NOT_POSSIBLE);
    }

    private static void heights() {
        JugglerStates x = new JugglerStates();
        for (int height = 0; height <= 7; height++) {
            Check.program(x, "0:" + height);
            Check.due("height", x.thrown(0, 0, 0), height);
            Check.due("no pass", x.thrown(0, 0, 1), 0);
            if (height > 0) {
                Check.program(x, "1:" + height + "p");
                Check.due("height of a pass", x.thrown(1, 0, 0), height);
                Check.due("a pass", x.thrown(1, 0, 1), 1);
            }
        }
        Check.due("height 8", Scenes.withPad("0:8").read(), JugglerStates.BAD_TEXT);
        Check.due("height 9", Scenes.withPad("0:9").read(), JugglerStates.BAD_TEXT);
    }

    private static void oneToEightThrows() {
        Check.due("no throw", Scenes.withPad("0:").read(), JugglerStates.BAD_TEXT);
        StringBuilder text = new StringBuilder("1:");
        for (int length = 1; length <= 8; length++) {
            text.append(length % 8);
            JugglerStates x = new JugglerStates();
            Check.program(x, text.toString());
            Check.due("throws", x.of(1, 2), length);
            Check.due("last throw", x.thrown(1, length - 1, 0), length % 8);
            Check.due("behind it", x.thrown(1, length, 0), JugglerStates.NO_SUCH);
        }
        Check.due("nine throws", Scenes.withPad(text + "1").read(), JugglerStates.BAD_TEXT);
    }

    private static void programAtFirst() {
        JugglerStates x = new JugglerStates();
        for (int juggler = 0; juggler < 2; juggler++) {
            Check.due("throws", x.of(juggler, 2), 1);
            Check.due("height", x.thrown(juggler, 0, 0), 0);
            Check.due("pass", x.thrown(juggler, 0, 1), 0);
            Check.due("no second throw", x.thrown(juggler, 1, 0), JugglerStates.NO_SUCH);
        }
        x.start(1, 1);
        Check.due("both slip", x.pass(1), 2);
        Check.due("a slip of 0", x.of(0, 4), 1);
        Check.due("a slip of 1", x.of(1, 4), 1);
    }

    private static void placeAtFirst() {
        JugglerStates x = new JugglerStates();
        Check.due("place of 0", x.of(0, 3), 0);
        Check.due("place of 1", x.of(1, 3), 0);
        x = Scenes.juggling("50", "0", 2, 0);
        Check.due("the first throw comes next", x.pass(1), 0);
        Check.due("place", x.of(0, 3), 1);
        Check.due("the second one comes next", x.pass(1), 1);
    }

    private static void firstComesBehindLast() {
        StringBuilder throwsMade = new StringBuilder();
        for (int length = 1; length <= 8; length++) {
            throwsMade.append('1');
            JugglerStates x = Scenes.juggling(throwsMade.toString(), "1", 1, 0);
            x.pass(length);
            Check.due("behind all " + length, x.of(0, 3), 0);
            x.pass(200);
            Check.due("behind 200 more of " + length, x.of(0, 3), 200 % length);
        }
        JugglerStates x = Scenes.juggling("1110", "1", 1, 0);
        Check.due("three beats", x.pass(3), 0);
        Check.due("the last throw slips", x.pass(1), 1);
        x = Scenes.juggling("0111", "1", 2, 0);
        x.drop(0, 0);
        Check.due("the first throw has no club", x.pass(4), 0);
        Check.due("the first one again slips", x.pass(1), 1);
    }

    // ---- a beat

    private static void zeroThrowsFirst() {
        for (int height = 1; height <= 7; height++) {
            JugglerStates x = Scenes.juggling(height + "p", "" + height, 1, 1);
            Check.due("both to 1", x.pass(1), 1);
            Check.due("0 was first", x.of(0, 5), 0);
            Check.due("1 clashed", x.of(1, 5), 1);
            Check.due("the pass came", x.count(4), 1);
            x = Scenes.juggling("" + height, height + "p", 1, 1);
            Check.due("both to 0", x.pass(1), 1);
            Check.due("0 was first", x.of(0, 5), 0);
            Check.due("1 clashed", x.of(1, 5), 1);
            Check.due("the pass did not come", x.count(4), 0);
        }
    }

    private static void emptyHandThrowsNothing() {
        for (String thrown : new String[] {"0", "1", "7", "1p", "7p"}) {
            JugglerStates x = Scenes.juggling(thrown, thrown, 2, 2);
            x.drop(0, 0);
            x.drop(1, 0);
            Check.due(thrown + " of empty hands", x.pass(1), 0);
            Check.due("state of 0", x.of(0, 0), 1);
            Check.due("state of 1", x.of(1, 0), 1);
            Check.due("throws", x.count(3), 0);
            Check.due("slips", x.of(0, 4) + x.of(1, 4), 0);
            Check.due("passes", x.count(4), 0);
        }
    }

    private static void heightZeroSlips() {
        JugglerStates x = Scenes.juggling("0", "0", 3, 2);
        Check.due("dropped", x.pass(1), 2);
        Check.due("slips of 0", x.of(0, 4), 1);
        Check.due("slips of 1", x.of(1, 4), 1);
        Check.due("no clash", x.of(0, 5) + x.of(1, 5), 0);
        Check.due("state of 0", x.of(0, 0), 3);
        Check.due("state of 1", x.of(1, 0), 1);
    }

    private static void comesAsItsHeightTells() {
        for (int height = 1; height <= 7; height++) {
            int comes = 1 << height >> 1;
            JugglerStates x = Scenes.juggling("" + height, "0", 1, 0);
            Check.due("throw of 0", x.pass(1), 0);
            Check.due(height + ": state of 0", x.of(0, 0), comes);
            Check.due(height + ": state of 1", x.of(1, 0), 0);
            x = Scenes.juggling(height + "p", "0", 1, 0);
            Check.due("pass of 0", x.pass(1), 0);
            Check.due(height + "p: state of 0", x.of(0, 0), 0);
            Check.due(height + "p: state of 1", x.of(1, 0), comes);
            x = Scenes.juggling("0", "" + height, 0, 1);
            Check.due("throw of 1", x.pass(1), 0);
            Check.due(height + " of 1: state of 1", x.of(1, 0), comes);
            x = Scenes.juggling("0", height + "p", 0, 1);
            Check.due("pass of 1", x.pass(1), 0);
            Check.due(height + "p of 1: state of 0", x.of(0, 0), comes);
            Check.due(height + "p of 1: state of 1", x.of(1, 0), 0);
        }
    }

    private static void clashes() {
        for (int height = 1; height <= 7; height++) {
            clash("" + height, 1 | 1 << height, 0, height, 1, 0);
            clash(height + "p", 1, 1 << height, height, 1, 0);
            clash(height + "p", 1 << height, 1, height, 0, 1);
            clash("" + height, 0, 1 | 1 << height, height, 0, 1);
        }
        JugglerStates x = Scenes.juggling("3", "3", 0, 0);
        Scenes.setStates(x, 1 | 4 | 16, 8);
        Check.due("clubs just beside it do not clash", x.pass(1), 0);
        Check.due("state of 0", x.of(0, 0), 2 | 4 | 8);
    }

    /** Both throw the same; the club that was to come first stays. */
    private static void clash(String thrown, int zero, int one, int height, int clashesOfZero, int clashesOfOne) {
        JugglerStates x = Scenes.juggling(thrown, thrown, 0, 0);
        Scenes.setStates(x, zero, one);
        String name = thrown + " from " + zero + " and " + one;
        Check.due(name, x.pass(1), 1);
        Check.due(name + ": clashes of 0", x.of(0, 5), clashesOfZero);
        Check.due(name + ": clashes of 1", x.of(1, 5), clashesOfOne);
        Check.due(name + ": slips", x.of(0, 4) + x.of(1, 4), 0);
        Check.due(name + ": state of 0", x.of(0, 0), zero >> 1);
        Check.due(name + ": state of 1", x.of(1, 0), one >> 1);
        Check.due(name + ": passes", x.count(4), 0);
    }

    private static void placesGoOn() {
        JugglerStates x = Scenes.juggling("777", "1111", 0, 1);
        x.pass(1);
        Check.due("place of 0, which threw nothing", x.of(0, 3), 1);
        Check.due("place of 1", x.of(1, 3), 1);
        x.pass(1);
        Check.due("place of 0", x.of(0, 3), 2);
        Check.due("place of 1", x.of(1, 3), 2);
        x.pass(1);
        Check.due("place of 0", x.of(0, 3), 0);
        Check.due("place of 1", x.of(1, 3), 3);
        x = Scenes.juggling("777", "05", 1, 0);
        x.pass(1);
        Check.due("place of 1, which threw nothing", x.of(1, 3), 1);
    }

    private static void beatsBecomeLess() {
        JugglerStates x = Scenes.withStates(255, 254);
        Check.due("the club of beat 0 slips", x.pass(1), 1);
        Check.due("state of 0", x.of(0, 0), 127);
        Check.due("state of 1", x.of(1, 0), 127);
        x = Scenes.withStates(128, 130);
        for (int beat = 1; beat <= 7; beat++) {
            x.pass(1);
            Check.due("state of 0 behind " + beat, x.of(0, 0), 128 >> beat);
            Check.due("state of 1 behind " + beat, x.of(1, 0), beat == 1 ? 65 : 128 >> beat);
        }
        Check.due("nothing else was dropped", x.count(1), 14);
    }
}
