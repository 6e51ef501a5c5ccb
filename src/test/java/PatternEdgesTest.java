import java.util.Arrays;

/** The edges that "Patterns", "Ways" and the promises 13 to 16 name: a test for each sentence. */
public final class PatternEdgesTest {
    private static final int[] FAR = {Integer.MIN_VALUE, Integer.MIN_VALUE + 1, -256, 256, 65536, Integer.MAX_VALUE};
    private static final int NO_THROW = -1;
    private static final String[] NO_PATTERNS = {"", "8", "38", "33p", "0:3", "333333333", "3/3", "p", "3!", ":"};
    private static final String[] NOT_SOUND = {"21", "321", "10", "43", "6666661", "10000000", "70000000"};

    public static void main(String[] args) {
        terms();
        patternAndBack();
        ways();
        counting();
        Check.finish();
    }

    private static void terms() {
        Check.sentence("A pattern is a row of 1 to 8 heights of one juggler, without passes, that is thrown again and"
            + " again.", PatternEdgesTest::oneToEightHeights);
        Check.sentence("It is sound if, for any two places of it, the place and the height, added and left over by the"
            + " length of the pattern, are not the same.", PatternEdgesTest::soundByTheWords);
        Check.sentence("A sound pattern needs as many clubs as the sum of its heights divided by its length (this is a whole"
            + " number).", PatternEdgesTest::clubsByTheWords);
        Check.sentence("Its start is the state from which it can be thrown forever without a club too few or too many",
            PatternEdgesTest::startIsThrownForever);
        Check.sentence("the beat k (0 to 7) is in it if some throw of the pattern that is thought to have been made ahead of"
            + " now (the pattern having been thrown forever so far, with its first throw to come now) comes in the beat k.",
            PatternEdgesTest::startBeats);
        Check.sentence("An orbit of a sound pattern is a set of places that one club goes through: from a place to the place"
            + " and its height, left over by the length, until it comes round", PatternEdgesTest::orbits);
        Check.sentence("places with the height 0 are no orbits.", PatternEdgesTest::noOrbits);
        Check.sentence("A sound pattern turned back in time: the place (length less 1, less the place and the height, left"
            + " over by the length) has this height, for each place.", PatternEdgesTest::turnedBack);
    }

    private static void patternAndBack() {
        Check.sentence("patterns; nothing changes.", PatternEdgesTest::nothingChanges);
        Check.sentence("- `what`: 0 whether it is sound (1 or 0)", PatternEdgesTest::whetherSound);
        Check.sentence("1 the clubs that it needs, 2 its start, 3 its orbits, how many,", PatternEdgesTest::clubsStartOrbits);
        Check.sentence("4 the places of the orbit of its first place, as a set (0 if its height is 0)",
            PatternEdgesTest::orbitOfTheFirstPlace);
        Check.sentence("5 the least number of throws behind which it comes again (a divisor of its length)",
            PatternEdgesTest::comesAgain);
        Check.sentence("6 whether its start is a state without gaps (1 or 0: the beats 0 to clubs less 1)",
            PatternEdgesTest::withoutGaps);
        Check.sentence("BAD_TEXT if the pad is no pattern; BAD_VALUE if what is out of range; NOT_POSSIBLE if it is not"
            + " sound, and what is not 0.", PatternEdgesTest::patternRefuses);
        Check.sentence("- `place`: 0 or more, less than its length", PatternEdgesTest::placesOfBack);
        Check.sentence("BAD_TEXT if the pad is no pattern; NO_SUCH if there is no such place; NOT_POSSIBLE if it is not"
            + " sound.", PatternEdgesTest::backRefuses);
    }

    private static void ways() {
        Check.sentence("A way from a state to another one is a row of throws of one juggler without passes, by which no club"
            + " is dropped, and no beat without a club has a height but 0, behind which the state is the other one.",
            PatternEdgesTest::waysAreThrown);
        Check.sentence("(A beat without a club counts as a throw with the height 0.)", PatternEdgesTest::emptyBeatsCount);
        Check.sentence("Tells something about the shortest ways from the state of a juggler (of now) to a state.",
            PatternEdgesTest::shortestFromNow);
        Check.sentence("- `state`: 0 to 255, a set of beats - `what`: 0 how many throws they have",
            PatternEdgesTest::statesOfWay);
        Check.sentence("1 the first throw of the first one of them: the one with the lowest first throw, of these with the"
            + " lowest second one, and so on; 2 the last throw of that one", PatternEdgesTest::firstWay);
        Check.sentence("NO_SUCH if there is no such juggler; BAD_VALUE if another argument is out of range;",
            PatternEdgesTest::wayRefuses);
        Check.sentence("NOT_POSSIBLE if there is none;", PatternEdgesTest::noWay);
        Check.sentence("NONE if it has no throws (what is 1 or 2).", PatternEdgesTest::noThrows);
    }

    private static void counting() {
        Check.sentence("Counts sound patterns. - `length`: 1 to 5", PatternEdgesTest::lengthsOfHowMany);
        Check.sentence("- `clubs`: 0 to 7", PatternEdgesTest::clubsOfHowMany);
        Check.sentence("Returns how many sound patterns of this length need so many clubs; BAD_VALUE if an argument is out of"
            + " range.", PatternEdgesTest::howManyCounts);
    }

    // ---- the terms

    private static void oneToEightHeights() {
        Check.due("no height", new JugglerStates().pattern(0), JugglerStates.BAD_TEXT);
        StringBuilder text = new StringBuilder();
        for (int length = 1; length <= 8; length++) {
            text.append('7');
            Check.due(length + " heights", Scenes.withPad(text.toString()).pattern(0), 1);
            Check.due(length + " heights, and a pass", Scenes.withPad(text + "p").pattern(0), JugglerStates.BAD_TEXT);
        }
        Check.due("nine heights", Scenes.withPad(text + "7").pattern(0), JugglerStates.BAD_TEXT);
        Check.due("a full pad of heights", Scenes.withPad("777777777777777777777777777777").pattern(0),
            JugglerStates.BAD_TEXT);
        for (int height = 0; height <= 7; height++) {
            Check.due("the height " + height, Scenes.withPad("" + height).pattern(1), height);
        }
        Check.due("the height 8", Scenes.withPad("8").pattern(1), JugglerStates.BAD_TEXT);
        Check.due("what comes ahead of 0", Scenes.withPad("/").pattern(1), JugglerStates.BAD_TEXT);
        Check.due("a program is none", Scenes.withPad("0:3").pattern(0), JugglerStates.BAD_TEXT);
    }

    private static boolean isSound(int[] heights) {
        int length = heights.length;
        for (int one = 0; one < length; one++) {
            for (int two = one + 1; two < length; two++) {
                if ((one + heights[one]) % length == (two + heights[two]) % length) {
                    return false;
                }
            }
        }
        return true;
    }

    /** All rows of so many heights: the digits of a number to the base 8. */
    private static int[] row(int number, int length) {
        int[] heights = new int[length];
        for (int place = 0; place < length; place++) {
            heights[place] = number >> 3 * place & 7;
        }
        return heights;
    }

    private static int[] row(String text) {
        int[] heights = new int[text.length()];
        for (int place = 0; place < heights.length; place++) {
            heights[place] = text.charAt(place) - '0';
        }
        return heights;
    }

    private static String text(int[] heights) {
        StringBuilder text = new StringBuilder();
        for (int height : heights) {
            text.append(height);
        }
        return text.toString();
    }

    private static void soundByTheWords() {
        for (int length = 1; length <= 4; length++) {
            for (int number = 0; number < 1 << 3 * length; number++) {
                int[] heights = row(number, length);
                Check.due(text(heights), Scenes.withPad(text(heights)).pattern(0), isSound(heights) ? 1 : 0);
            }
        }
        // of eight places, the first and the last one alone come to the same
        Check.due("11111112", Scenes.withPad("11111112").pattern(0), 0);
        Check.due("70000001", Scenes.withPad("70000001").pattern(0), 1);
        Check.due("10000007", Scenes.withPad("10000007").pattern(0), 0);
        Check.due("01234567", Scenes.withPad("01234567").pattern(0), 0);
        Check.due("76543210", Scenes.withPad("76543210").pattern(0), 0);
        Check.due("77777777", Scenes.withPad("77777777").pattern(0), 1);
        Check.due("40404040", Scenes.withPad("40404040").pattern(0), 1);
    }

    private static void clubsByTheWords() {
        for (int number = 0; number < 512; number++) {
            int[] heights = row(number, 3);
            if (isSound(heights)) {
                int sum = heights[0] + heights[1] + heights[2];
                Check.due(text(heights), Scenes.withPad(text(heights)).pattern(1), sum / 3);
                Check.due("a whole number", sum % 3, 0);
            }
        }
        Check.due("no clubs", Scenes.withPad("00000000").pattern(1), 0);
        Check.due("one club", Scenes.withPad("70000001").pattern(1), 1);
        Check.due("seven clubs", Scenes.withPad("77777777").pattern(1), 7);
    }

    /** Throws it for two rounds from its start: each hand has a club when it is to throw one, and never else. */
    private static void startIsThrownForever() {
        for (int number = 0; number < 512; number++) {
            int[] heights = row(number, 3);
            if (isSound(heights)) {
                isThrownForever(text(heights));
            }
        }
        for (String pattern : new String[] {"0", "7", "60", "75666666", "67747045", "42536031", "70000001", "17000000"}) {
            Check.holds(pattern + " is sound", isSound(row(pattern)));
            isThrownForever(pattern);
        }
    }

    private static void isThrownForever(String pattern) {
        int start = Scenes.withPad(pattern).pattern(2);
        JugglerStates x = new JugglerStates();
        Check.program(x, "0:" + pattern);
        Scenes.setStates(x, start, 0);
        for (int beat = 0; beat < 2 * pattern.length(); beat++) {
            int due = pattern.charAt(beat % pattern.length()) == '0' ? 0 : 1;
            Check.due(pattern + ": a club in beat " + beat, x.of(0, 0) & 1, due);
            Check.due(pattern + ": dropped in beat " + beat, x.pass(1), 0);
        }
        Check.due(pattern + ": the start again", x.of(0, 0), start);
    }

    private static void startBeats() {
        starts("1", 1);
        starts("7", 127);
        starts("77777777", 127);
        starts("0", 0);
        starts("00000000", 0);
        // the throw made last, of the height 7: it comes in the beat 6, and none can come in the beat 7
        starts("00000017", 64);
        starts("00000170", 32);
        // a throw of seven beats ago, of the height 7
        starts("17000000", 1);
        // one of eight beats ago came in the beat before this one; the one that comes was made last
        starts("70000001", 1);
        starts("315", 19);
        starts("531", 7);
        starts("51", 11);
        starts("15", 21);
        starts("6060", 21);
        starts("0606", 42);
    }

    private static void starts(String pattern, int due) {
        Check.due(pattern + ": start", Scenes.withPad(pattern).pattern(2), due);
    }

    private static void orbits() {
        hasOrbits("3", 1, 1);
        hasOrbits("33", 1, 3);
        hasOrbits("333", 3, 1);
        hasOrbits("77777777", 1, 255);
        hasOrbits("44444444", 4, 17);
        hasOrbits("22222222", 2, 85);
        hasOrbits("66666666", 2, 85);
        hasOrbits("7777777", 7, 1);
        hasOrbits("531", 2, 5);
        hasOrbits("441", 1, 7);
        // the last place comes round to the first one
        hasOrbits("70000001", 1, 129);
    }

    private static void hasOrbits(String pattern, int due, int dueOfTheFirst) {
        JugglerStates x = Scenes.withPad(pattern);
        Check.due(pattern + ": is sound", x.pattern(0), 1);
        Check.due(pattern + ": orbits", x.pattern(3), due);
        Check.due(pattern + ": orbit of the first place", x.pattern(4), dueOfTheFirst);
    }

    private static void noOrbits() {
        hasOrbits("0", 0, 0);
        hasOrbits("00000000", 0, 0);
        hasOrbits("40", 1, 1);
        hasOrbits("04", 1, 0);
        hasOrbits("50505", 3, 1);
        hasOrbits("00000017", 1, 0);
    }

    private static void turnedBack() {
        for (int length = 1; length <= 3; length++) {
            for (int number = 0; number < 1 << 3 * length; number++) {
                int[] heights = row(number, length);
                if (isSound(heights)) {
                    isTurnedBack(heights);
                }
            }
        }
        for (String pattern : new String[] {"67747045", "42536031", "70000001", "17000000", "75666666", "50505"}) {
            isTurnedBack(row(pattern));
        }
    }

    private static void isTurnedBack(int[] heights) {
        JugglerStates x = Scenes.withPad(text(heights));
        int length = heights.length;
        for (int place = 0; place < length; place++) {
            int turned = length - 1 - (place + heights[place]) % length;
            Check.due(text(heights) + ": back(" + turned + ")", x.back(turned), heights[place]);
        }
    }

    // ---- pattern, back

    private static void nothingChanges() {
        for (String pad : new String[] {"531", "321", "0:3"}) {
            JugglerStates x = Scenes.busy(pad);
            JugglerStates y = Scenes.busy(pad);
            for (int what = -1; what <= 7; what++) {
                x.pattern(what);
                x.back(what);
                x.way(0, 1 << (what & 7), what & 3);
            }
            x.howMany(5, 3);
            String seen = Sight.everything(x);
            String due = Sight.everything(y);
            Check.holds("all is as before:\n" + seen + "\nis\n" + due, seen.equals(due));
        }
    }

    private static void whetherSound() {
        for (String pattern : NOT_SOUND) {
            Check.due(pattern, Scenes.withPad(pattern).pattern(0), 0);
        }
        for (String pattern : new String[] {"0", "7", "531", "77777777", "00000000", "70000001"}) {
            Check.due(pattern, Scenes.withPad(pattern).pattern(0), 1);
        }
    }

    private static void clubsStartOrbits() {
        tells("0", 0, 0, 0);
        tells("7", 7, 127, 1);
        tells("00000000", 0, 0, 0);
        tells("77777777", 7, 127, 1);
        tells("7777777", 7, 127, 7);
        tells("17000000", 1, 1, 1);
        tells("50505", 3, 21, 3);
    }

    private static void tells(String pattern, int clubs, int start, int orbits) {
        JugglerStates x = Scenes.withPad(pattern);
        Check.due(pattern + ": clubs", x.pattern(1), clubs);
        Check.due(pattern + ": start", x.pattern(2), start);
        Check.due(pattern + ": orbits", x.pattern(3), orbits);
    }

    private static void orbitOfTheFirstPlace() {
        Check.due("height 0", Scenes.withPad("0").pattern(4), 0);
        Check.due("height 0, and others", Scenes.withPad("04").pattern(4), 0);
        Check.due("one place", Scenes.withPad("40").pattern(4), 1);
        Check.due("one place of eight", Scenes.withPad("00000000").pattern(4), 0);
        Check.due("all places", Scenes.withPad("77777777").pattern(4), 255);
        Check.due("first and last", Scenes.withPad("70000001").pattern(4), 129);
        Check.due("not the other orbit", Scenes.withPad("315").pattern(4), 1);
    }

    private static void comesAgain() {
        comesAgainBehind("0", 1);
        comesAgainBehind("7", 1);
        comesAgainBehind("33333333", 1);
        comesAgainBehind("51515151", 2);
        comesAgainBehind("51", 2);
        comesAgainBehind("531531", 3);
        comesAgainBehind("53155315", 4);
        comesAgainBehind("70000001", 8);
        comesAgainBehind("3333333", 1);
        // the same heights, but not behind a divisor of the length
        comesAgainBehind("50505", 5);
        comesAgainBehind("330", 3);
        comesAgainBehind("441441", 3);
        comesAgainBehind("333333", 1);
        comesAgainBehind("511151", 6);
    }

    private static void comesAgainBehind(String pattern, int due) {
        JugglerStates x = Scenes.withPad(pattern);
        int sound = isSound(row(pattern)) ? 1 : 0;
        Check.due(pattern + " is sound", x.pattern(0), sound);
        Check.due(pattern + " comes again", x.pattern(5), sound == 1 ? due : JugglerStates.NOT_POSSIBLE);
    }

    private static void withoutGaps() {
        Check.due("no clubs", Scenes.withPad("0").pattern(6), 1);
        Check.due("one club now", Scenes.withPad("1").pattern(6), 1);
        Check.due("one club, thrown now", Scenes.withPad("20").pattern(6), 1);
        Check.due("one club, thrown in the next beat", Scenes.withPad("02").pattern(6), 0);
        Check.due("seven clubs", Scenes.withPad("7").pattern(6), 1);
        Check.due("531", Scenes.withPad("531").pattern(6), 1);
        Check.due("315", Scenes.withPad("315").pattern(6), 0);
        Check.due("51", Scenes.withPad("51").pattern(6), 0);
        Check.due("330", Scenes.withPad("330").pattern(6), 1);
        Check.due("303", Scenes.withPad("303").pattern(6), 0);
        Check.due("033", Scenes.withPad("033").pattern(6), 0);
    }

    private static void patternRefuses() {
        for (String text : NO_PATTERNS) {
            JugglerStates x = Scenes.withPad(text);
            for (int what = -1; what <= 7; what++) {
                Check.due(text + ": pattern(" + what + ")", x.pattern(what), JugglerStates.BAD_TEXT);
            }
        }
        for (String pattern : NOT_SOUND) {
            JugglerStates x = Scenes.withPad(pattern);
            Check.due(pattern + ": pattern(-1)", x.pattern(-1), JugglerStates.BAD_VALUE);
            Check.due(pattern + ": pattern(0)", x.pattern(0), 0);
            for (int what = 1; what <= 6; what++) {
                Check.due(pattern + ": pattern(" + what + ")", x.pattern(what), JugglerStates.NOT_POSSIBLE);
            }
            Check.due(pattern + ": pattern(7)", x.pattern(7), JugglerStates.BAD_VALUE);
        }
        JugglerStates x = Scenes.withPad("531");
        Check.due("pattern(-1)", x.pattern(-1), JugglerStates.BAD_VALUE);
        Check.due("pattern(7)", x.pattern(7), JugglerStates.BAD_VALUE);
        for (int what : FAR) {
            Check.due("pattern(" + what + ")", x.pattern(what), JugglerStates.BAD_VALUE);
        }
        Check.due("pattern(6)", x.pattern(6), 1);
    }

    private static void placesOfBack() {
        String pattern = "77777777";
        for (int length = 1; length <= 8; length++) {
            JugglerStates x = Scenes.withPad(pattern.substring(0, length));
            Check.due("back(-1) of " + length, x.back(-1), JugglerStates.NO_SUCH);
            Check.due("back(0) of " + length, x.back(0), 7);
            Check.due("the last place of " + length, x.back(length - 1), 7);
            Check.due("the place behind it", x.back(length), JugglerStates.NO_SUCH);
            for (int place : FAR) {
                Check.due("back(" + place + ")", x.back(place), JugglerStates.NO_SUCH);
            }
        }
        JugglerStates x = Scenes.withPad("51515151");
        Check.due("back(7)", x.back(7), 1);
        Check.rewrite(x, "51");
        Check.due("a place of the pattern before", x.back(7), JugglerStates.NO_SUCH);
    }

    private static void backRefuses() {
        for (String text : NO_PATTERNS) {
            JugglerStates x = Scenes.withPad(text);
            Check.due(text + ": back(0)", x.back(0), JugglerStates.BAD_TEXT);
            Check.due(text + ": back(-1)", x.back(-1), JugglerStates.BAD_TEXT);
        }
        for (String pattern : NOT_SOUND) {
            JugglerStates x = Scenes.withPad(pattern);
            Check.due(pattern + ": back(0)", x.back(0), JugglerStates.NOT_POSSIBLE);
            Check.due(pattern + ": the last place", x.back(pattern.length() - 1), JugglerStates.NOT_POSSIBLE);
            Check.due(pattern + ": behind it", x.back(pattern.length()), JugglerStates.NO_SUCH);
            Check.due(pattern + ": back(-1)", x.back(-1), JugglerStates.NO_SUCH);
        }
    }

    // ---- ways

    /** Goes along the first throws to the state, one by one: each can be made, and the way becomes one throw shorter. */
    private static void waysAreThrown() {
        for (int from : new int[] {0, 1, 3, 7, 64, 127, 128, 129, 131, 170, 254, 255}) {
            JugglerStates x = Scenes.withStates(from, 0);
            for (int to = 0; to < 256; to += from % 2 == 0 ? 1 : 2) {
                if (x.way(0, to, 0) > 0) {
                    isThrown(from, to);
                }
            }
        }
    }

    private static void isThrown(int from, int to) {
        int state = from;
        JugglerStates x = Scenes.withStates(from, 0);
        int left = x.way(0, to, 0);
        int last = x.way(0, to, 2);
        String name = "from " + from + " to " + to;
        int thrown = JugglerStates.NONE;
        for (; left > 0; left--) {
            x = Scenes.withStates(state, 0);
            Check.due(name + ", at " + state, x.way(0, to, 0), left);
            thrown = x.way(0, to, 1);
            Check.program(x, "0:" + thrown);
            Check.holds(name + ": no height but 0 without a club", (state & 1) == 1 || thrown == 0);
            Check.due(name + ": dropped", x.pass(1), 0);
            state = x.of(0, 0);
        }
        Check.due(name + ": comes there", state, to);
        Check.due(name + ": the last throw", thrown, last);
    }

    /** Behind a throw from a state; NO_THROW if it would drop a club, or there is none for it. */
    private static int behind(int state, int height) {
        boolean club = (state & 1) == 1;
        if (club != height > 0 || club && (state >> height & 1) == 1) {
            return NO_THROW;
        }
        return (club ? state | 1 << height : state) >> 1;
    }

    /** From every state to one: how many throws are left. A way through all states would have 255. */
    private static int[] throwsLeft(int to) {
        int[] left = new int[256];
        Arrays.fill(left, NO_THROW);
        left[to] = 0;
        for (int round = 1; round <= 255; round++) {
            for (int state = 0; state < 256; state++) {
                for (int height = 0; height <= 7 && left[state] == NO_THROW; height++) {
                    int next = behind(state, height);
                    if (next != NO_THROW && left[next] == round - 1) {
                        left[state] = round;
                    }
                }
            }
        }
        return left;
    }

    private static void waysByTheWords(int what) {
        JugglerStates[] from = new JugglerStates[256];
        for (int state = 0; state < 256; state++) {
            from[state] = Scenes.withStates(state, 0);
        }
        for (int to = 0; to < 256; to++) {
            int[] left = throwsLeft(to);
            for (int state = 0; state < 256; state++) {
                String name = "from " + state + ": way(0, " + to + ", " + what + ")";
                Check.due(name, from[state].way(0, to, what), dueOfWay(state, left, what));
            }
        }
    }

    private static int dueOfWay(int from, int[] left, int what) {
        if (left[from] == NO_THROW) {
            return JugglerStates.NOT_POSSIBLE;
        }
        if (what == 0) {
            return left[from];
        }
        int first = JugglerStates.NONE;
        int last = JugglerStates.NONE;
        int state = from;
        while (left[state] > 0) {
            int height = 0;
            while (behind(state, height) == NO_THROW || left[behind(state, height)] != left[state] - 1) {
                height++;
            }
            first = first == JugglerStates.NONE ? height : first;
            last = height;
            state = behind(state, height);
        }
        return what == 1 ? first : last;
    }

    private static void emptyBeatsCount() {
        goes(128, 1, 7, 0, 0);
        goes(2, 1, 1, 0, 0);
        goes(254, 127, 1, 0, 0);
        goes(2, 64, 2, 0, 7);
        goes(64, 32, 1, 0, 0);
        goes(6, 6, 0, JugglerStates.NONE, JugglerStates.NONE);
        goes(6, 65, 2, 0, 7);
    }

    private static void goes(int from, int to, int due, int first, int last) {
        JugglerStates x = Scenes.withStates(from, 255 - from);
        String name = "from " + from + " to " + to;
        Check.due(name + ", throws", x.way(0, to, 0), due);
        Check.due(name + ", the first one", x.way(0, to, 1), first);
        Check.due(name + ", the last one", x.way(0, to, 2), last);
        x = Scenes.withStates(255 - from, from);
        Check.due(name + " of 1, throws", x.way(1, to, 0), due);
        Check.due(name + " of 1, the first one", x.way(1, to, 1), first);
        Check.due(name + " of 1, the last one", x.way(1, to, 2), last);
    }

    private static void shortestFromNow() {
        JugglerStates x = Scenes.juggling("5", "3", 3, 3);
        Check.due("from 7", x.way(0, 19, 0), 1);
        x.pass(1);
        Check.due("from 19", x.way(0, 19, 0), 0);
        Check.due("from 19 to 25", x.way(0, 25, 0), 1);
        Check.due("the other one stays at 7", x.way(1, 7, 0), 0);
        x.undo();
        Check.due("from 7 again", x.way(0, 19, 0), 1);
        // the program has nothing to do with the ways
        Check.program(x, "0:7p");
        Check.due("a pass", x.way(0, 19, 1), 5);
        waysByTheWords(0);
        goes(7, 14, 3, 4, 4);
        goes(1, 1, 0, JugglerStates.NONE, JugglerStates.NONE);
        goes(127, 127, 0, JugglerStates.NONE, JugglerStates.NONE);
        goes(1, 64, 1, 7, 7);
    }

    private static void statesOfWay() {
        JugglerStates x = new JugglerStates();
        x.start(0, 8);
        Check.due("state 0", x.way(0, 0, 0), 0);
        Check.due("state 255", x.way(1, 255, 0), 0);
        Check.due("state -1", x.way(0, -1, 0), JugglerStates.BAD_VALUE);
        Check.due("state 256", x.way(1, 256, 0), JugglerStates.BAD_VALUE);
        for (int state : FAR) {
            Check.due("state " + state, x.way(0, state, 0), JugglerStates.BAD_VALUE);
        }
        Check.due("state 254", x.way(1, 254, 0), JugglerStates.NOT_POSSIBLE);
    }

    private static void firstWay() {
        waysByTheWords(1);
        waysByTheWords(2);
        // 3 3 and 4 2
        goes(3, 6, 2, 3, 3);
        // 4 4 and 5 3
        goes(3, 12, 2, 4, 4);
        // 4 4 4, 4 5 3, 5 3 4, 5 5 2, 6 3 3 and 6 4 2
        goes(7, 14, 3, 4, 4);
        // 4 4 7 and 5 3 7
        goes(7, 70, 3, 4, 7);
        goes(1, 32, 1, 6, 6);
        // 6 7, as 8 5 is too high
        goes(3, 80, 2, 6, 7);
        goes(3, 96, 2, 7, 7);
    }

    private static void wayRefuses() {
        JugglerStates x = new JugglerStates();
        x.start(3, 3);
        Check.due("juggler -1", x.way(-1, 7, 0), JugglerStates.NO_SUCH);
        Check.due("juggler 2", x.way(2, 7, 0), JugglerStates.NO_SUCH);
        Check.due("state -1", x.way(0, -1, 1), JugglerStates.BAD_VALUE);
        Check.due("state 256", x.way(0, 256, 2), JugglerStates.BAD_VALUE);
        Check.due("what -1", x.way(0, 7, -1), JugglerStates.BAD_VALUE);
        Check.due("what 3", x.way(1, 7, 3), JugglerStates.BAD_VALUE);
        for (int what : FAR) {
            Check.due("what " + what, x.way(0, 11, what), JugglerStates.BAD_VALUE);
        }
        Check.due("all is well", x.way(1, 11, 2), 4);
    }

    private static void noWay() {
        for (int what = 0; what <= 2; what++) {
            JugglerStates x = new JugglerStates();
            x.start(7, 8);
            Check.due("one club fewer", x.way(0, 63, what), JugglerStates.NOT_POSSIBLE);
            Check.due("one club more", x.way(0, 255, what), JugglerStates.NOT_POSSIBLE);
            Check.due("no club", x.way(0, 0, what), JugglerStates.NOT_POSSIBLE);
            Check.due("no throw comes in the beat 7", x.way(0, 254, what), JugglerStates.NOT_POSSIBLE);
            Check.due("from eight clubs", x.way(1, 127, what), JugglerStates.NOT_POSSIBLE);
            x.start(0, 1);
            Check.due("from no club", x.way(0, 1, what), JugglerStates.NOT_POSSIBLE);
            Check.due("to no club", x.way(1, 0, what), JugglerStates.NOT_POSSIBLE);
            Check.due("beat 7", x.way(1, 128, what), JugglerStates.NOT_POSSIBLE);
        }
    }

    private static void noThrows() {
        for (int state = 0; state < 256; state += 15) {
            JugglerStates x = Scenes.withStates(state, state);
            Check.due("throws from " + state, x.way(0, state, 0), 0);
            Check.due("the first one", x.way(0, state, 1), JugglerStates.NONE);
            Check.due("the last one", x.way(1, state, 2), JugglerStates.NONE);
        }
    }

    // ---- howMany

    private static void lengthsOfHowMany() {
        JugglerStates x = new JugglerStates();
        Check.due("length 0", x.howMany(0, 0), JugglerStates.BAD_VALUE);
        Check.due("length -1", x.howMany(-1, 0), JugglerStates.BAD_VALUE);
        Check.due("length 6", x.howMany(6, 0), JugglerStates.BAD_VALUE);
        for (int length : FAR) {
            Check.due("length " + length, x.howMany(length, 3), JugglerStates.BAD_VALUE);
        }
        Check.due("length 1", x.howMany(1, 3), 1);
        // with one club no height is above the length: 2 to the length, without the row of zeros
        Check.due("length 5", x.howMany(5, 1), 31);
    }

    private static void clubsOfHowMany() {
        JugglerStates x = new JugglerStates();
        for (int length = 1; length <= 5; length++) {
            Check.due("-1 clubs", x.howMany(length, -1), JugglerStates.BAD_VALUE);
            Check.due("no clubs", x.howMany(length, 0), 1);
            Check.due("7 clubs", x.howMany(length, 7), 1);
            Check.due("8 clubs", x.howMany(length, 8), JugglerStates.BAD_VALUE);
            for (int clubs : FAR) {
                Check.due(clubs + " clubs", x.howMany(length, clubs), JugglerStates.BAD_VALUE);
            }
        }
    }

    private static void howManyCounts() {
        JugglerStates x = new JugglerStates();
        for (int length = 1; length <= 5; length++) {
            int[] due = new int[8];
            for (int number = 0; number < 1 << 3 * length; number++) {
                int[] heights = row(number, length);
                if (isSound(heights)) {
                    int sum = 0;
                    for (int height : heights) {
                        sum += height;
                    }
                    due[sum / length]++;
                }
            }
            for (int clubs = 0; clubs <= 7; clubs++) {
                Check.due("howMany(" + length + ", " + clubs + ")", x.howMany(length, clubs), due[clubs]);
            }
        }
    }
}
