import java.util.Arrays;

/** Two jugglers who throw clubs beat by beat; ../shared/DOC.md promises what each call answers. */
public final class JugglerStates {
    public static final int NO_SUCH = -1, BAD_VALUE = -2, BAD_TEXT = -3, TOO_MANY = -4, NOT_POSSIBLE = -5, NONE = -6;

    private static final int JUGGLERS = 2;
    /** A state is a set of the beats 0 to 7, and the heights of throws are the same numbers. */
    private static final int BEATS = 8;
    private static final int STATES = 1 << BEATS;
    private static final int MOST_THROWS = 8;
    private static final int MOST_BEATS_AT_ONCE = 200;
    private static final int MOST_BEATS_SINCE_START = 100000;
    private static final int BEATS_FORESEEN = 1000;
    private static final int MOST_COUNTED_LENGTH = 5;
    private static final int PAD_SIZE = 30;
    private static final int PACKED_CHARACTERS = 8;
    private static final int FIRST_CHARACTER = 33, LAST_CHARACTER = 126;
    private static final int CHANGES_KEPT = 6;
    private static final int SLOTS = 2;

    private final Scene now = new Scene();
    /** What will be is played here, so that nothing changes in the scene of now. */
    private final Scene ahead = new Scene();
    private final Pad pad = new Pad();
    private final Pattern padPattern = new Pattern();
    private final Ways ways = new Ways();
    private final History history = new History();
    private final Slot slotZero = new Slot();
    private final Slot slotOne = new Slot();

    public JugglerStates() {
    }

    // ---- changes

    public int start(int zero, int one) {
        if (!isWithin(zero, 0, BEATS) || !isWithin(one, 0, BEATS)) {
            return BAD_VALUE;
        }
        int clubsBefore = now.clubs();
        history.record(now);
        now.begin(zero, one);
        return clubsBefore;
    }

    public int read() {
        if (pad.programFault() != NONE) {
            return BAD_TEXT;
        }
        history.record(now);
        int reader = pad.digit(0);
        now.juggler(reader).learn(pad);
        pad.clear();
        return reader;
    }

    public int pass(int beats) {
        if (!isWithin(beats, 1, MOST_BEATS_AT_ONCE)) {
            return BAD_VALUE;
        }
        if (now.beatsPassed + beats > MOST_BEATS_SINCE_START) {
            return TOO_MANY;
        }
        history.record(now);
        return now.play(beats);
    }

    public int drop(int juggler, int beat) {
        if (!isJuggler(juggler)) {
            return NO_SUCH;
        }
        if (!isBeat(beat)) {
            return BAD_VALUE;
        }
        if (!now.juggler(juggler).expects(beat)) {
            return NOT_POSSIBLE;
        }
        history.record(now);
        now.juggler(juggler).lose(beat);
        now.floor++;
        return now.floor;
    }

    public int pick(int juggler, int beat) {
        if (!isJuggler(juggler)) {
            return NO_SUCH;
        }
        if (!isBeat(beat)) {
            return BAD_VALUE;
        }
        if (now.floor == 0 || now.juggler(juggler).expects(beat)) {
            return NOT_POSSIBLE;
        }
        history.record(now);
        now.juggler(juggler).expect(beat);
        now.floor--;
        return now.floor;
    }

    // ---- what there is

    public int of(int juggler, int what) {
        if (!isJuggler(juggler)) {
            return NO_SUCH;
        }
        Juggler asked = now.juggler(juggler);
        switch (what) {
            case 0: return asked.state;
            case 1: return asked.clubs();
            case 2: return asked.programLength;
            case 3: return asked.place;
            case 4: return asked.slips;
            case 5: return asked.clashes;
            default: return BAD_VALUE;
        }
    }

    public int thrown(int juggler, int place, int what) {
        if (!isJuggler(juggler)) {
            return NO_SUCH;
        }
        Juggler asked = now.juggler(juggler);
        if (!isWithin(place, 0, asked.programLength - 1)) {
            return NO_SUCH;
        }
        switch (what) {
            case 0: return asked.heightAt(place);
            case 1: return oneIf(asked.isPassAt(place));
            default: return BAD_VALUE;
        }
    }

    public int count(int what) {
        switch (what) {
            case 0: return now.beatsPassed;
            case 1: return now.floor;
            case 2: return now.clubs();
            case 3: return now.throwsMade;
            case 4: return now.passesCome;
            case 5: return pad.length;
            case 6: return history.size;
            default: return BAD_VALUE;
        }
    }

    // ---- what will be; nothing changes

    public int firstDrop() {
        ahead.become(now);
        for (int beat = 0; beat < BEATS_FORESEEN; beat++) {
            if (ahead.play(1) > 0) {
                return beat;
            }
        }
        return NONE;
    }

    public int comesRound() {
        ahead.become(now);
        for (int beats = 1; beats <= BEATS_FORESEEN; beats++) {
            ahead.play(1);
            if (ahead.standsLike(now)) {
                return beats;
            }
        }
        return NONE;
    }

    public int stateBehind(int juggler, int beats) {
        if (!isJuggler(juggler)) {
            return NO_SUCH;
        }
        if (!isWithin(beats, 1, MOST_BEATS_AT_ONCE)) {
            return BAD_VALUE;
        }
        ahead.become(now);
        ahead.play(beats);
        return ahead.juggler(juggler).state;
    }

    // ---- patterns; nothing changes

    public int pattern(int what) {
        if (!padPattern.learn(pad)) {
            return BAD_TEXT;
        }
        if (!isWithin(what, 0, 6)) {
            return BAD_VALUE;
        }
        boolean sound = padPattern.isSound();
        if (!sound && what != 0) {
            return NOT_POSSIBLE;
        }
        switch (what) {
            case 1: return padPattern.clubs();
            case 2: return padPattern.startState();
            case 3: return padPattern.orbits();
            case 4: return padPattern.orbitThrough(0);
            case 5: return padPattern.period();
            case 6: return oneIf(padPattern.startState() == firstBeats(padPattern.clubs()));
            default: return oneIf(sound);
        }
    }

    public int back(int place) {
        if (!padPattern.learn(pad)) {
            return BAD_TEXT;
        }
        if (!isWithin(place, 0, padPattern.length - 1)) {
            return NO_SUCH;
        }
        if (!padPattern.isSound()) {
            return NOT_POSSIBLE;
        }
        return padPattern.heightTurnedBack(place);
    }

    public int way(int juggler, int state, int what) {
        if (!isJuggler(juggler)) {
            return NO_SUCH;
        }
        if (!isWithin(state, 0, STATES - 1) || !isWithin(what, 0, 2)) {
            return BAD_VALUE;
        }
        ways.searchFrom(now.juggler(juggler).state);
        int steps = ways.stepsTo(state);
        if (steps == Ways.UNREACHED) {
            return NOT_POSSIBLE;
        }
        if (what == 0) {
            return steps;
        }
        if (steps == 0) {
            return NONE;
        }
        return what == 1 ? ways.firstThrowTo(state) : ways.lastThrowTo(state);
    }

    public int howMany(int length, int clubs) {
        if (!isWithin(length, 1, MOST_COUNTED_LENGTH) || !isWithin(clubs, 0, BEATS - 1)) {
            return BAD_VALUE;
        }
        return soundEndings(length, 0, 0, length * clubs);
    }

    // ---- texts

    public int put(long characters) {
        int added = packedCharacters(characters);
        if (added == 0) {
            return BAD_VALUE;
        }
        if (pad.length + added > PAD_SIZE) {
            return TOO_MANY;
        }
        for (int later = added - 1; later >= 0; later--) {
            pad.append((int) (characters >>> (8 * later)) & 255);
        }
        return pad.length;
    }

    public int wipe() {
        int lengthBefore = pad.length;
        pad.clear();
        return lengthBefore;
    }

    public int fault() {
        return pad.programFault();
    }

    // ---- undo, saving

    public int undo() {
        if (history.size == 0) {
            return NOT_POSSIBLE;
        }
        history.takeBack(now);
        return history.size;
    }

    public int save(int slot) {
        if (!isSlot(slot)) {
            return BAD_VALUE;
        }
        slotOf(slot).keep(now);
        return now.clubs();
    }

    public int restore(int slot) {
        if (!isSlot(slot)) {
            return BAD_VALUE;
        }
        if (!slotOf(slot).filled) {
            return NOT_POSSIBLE;
        }
        history.record(now);
        now.become(slotOf(slot).kept);
        return now.clubs();
    }

    // ---- helpers

    private static boolean isWithin(int number, int least, int most) {
        return number >= least && number <= most;
    }

    private static boolean isJuggler(int number) {
        return isWithin(number, 0, JUGGLERS - 1);
    }

    private static boolean isBeat(int number) {
        return isWithin(number, 0, BEATS - 1);
    }

    private static boolean isSlot(int number) {
        return isWithin(number, 0, SLOTS - 1);
    }

    private Slot slotOf(int number) {
        return number == 0 ? slotZero : slotOne;
    }

    private static int oneIf(boolean holds) {
        return holds ? 1 : 0;
    }

    private static int firstBeats(int clubs) {
        return (1 << clubs) - 1;
    }

    private static boolean has(int set, int member) {
        return (set >> member & 1) != 0;
    }

    private static int valueAt(int[] row, int index) {
        return index >= 0 && index < row.length ? row[index] : 0;
    }

    private static void setAt(int[] row, int index, int value) {
        if (index >= 0 && index < row.length) {
            row[index] = value;
        }
    }

    private static int leftOver(int number, int length) {
        return length > 0 ? Math.floorMod(number, length) : 0;
    }

    private static boolean isHeight(int code) {
        return isWithin(code, '0', '7');
    }

    /** How many characters a number packs; 0 if it is no row of 1 to 8 characters. */
    private static int packedCharacters(long packed) {
        int found = 0;
        long rest = packed;
        while (found < PACKED_CHARACTERS && rest != 0) {
            // 8 bits that are 0 with something above them fail here too: no character has the code 0
            if (!isWithin((int) (rest & 255), FIRST_CHARACTER, LAST_CHARACTER)) {
                return 0;
            }
            rest >>>= 8;
            found++;
        }
        return found;
    }

    /**
     * In how many ways a pattern goes on to a sound one from a place on, if its earlier throws land on the places
     * of a set, and the heights that are missing make up a sum. The place is the depth: the length limits it.
     */
    private static int soundEndings(int length, int place, int landed, int sum) {
        if (place >= length) {
            return sum == 0 ? 1 : 0;
        }
        int found = 0;
        for (int height = 0; height < BEATS && height <= sum; height++) {
            int landing = leftOver(place + height, length);
            if (!has(landed, landing)) {
                found += soundEndings(length, place + 1, landed | 1 << landing, sum - height);
            }
        }
        return found;
    }

    /** One juggler, with the program, and what has been counted of the throws. */
    private static final class Juggler {
        private int state;
        private final int[] heights = new int[MOST_THROWS];
        private int passPlaces;
        private int programLength = 1;
        private int place;
        private int slips;
        private int clashes;

        private void become(Juggler other) {
            state = other.state;
            for (int index = 0; index < MOST_THROWS; index++) {
                setAt(heights, index, other.heightAt(index));
            }
            passPlaces = other.passPlaces;
            programLength = other.programLength;
            place = other.place;
            slips = other.slips;
            clashes = other.clashes;
        }

        private void begin(int clubs) {
            state = firstBeats(clubs);
            place = 0;
            slips = 0;
            clashes = 0;
        }

        /** Takes the program of a pad that has no fault as a program. */
        private void learn(Pad pad) {
            programLength = 0;
            passPlaces = 0;
            place = 0;
            for (int index = Pad.FIRST_THROW; index < pad.length; index++) {
                if (pad.isHeightAt(index)) {
                    setAt(heights, programLength, pad.digit(index));
                    programLength++;
                } else {
                    passPlaces |= 1 << (programLength - 1);
                }
            }
        }

        private int clubs() {
            return Integer.bitCount(state);
        }

        private int heightAt(int index) {
            return valueAt(heights, index);
        }

        private boolean isPassAt(int index) {
            return has(passPlaces, index);
        }

        private boolean expects(int beat) {
            return has(state, beat);
        }

        private void expect(int beat) {
            state |= 1 << beat;
        }

        private void lose(int beat) {
            state &= ~(1 << beat);
        }

        private void endBeat() {
            state >>= 1;
            place++;
            if (place >= programLength) {
                place = 0;
            }
        }

        private boolean standsLike(Juggler other) {
            return state == other.state && place == other.place;
        }
    }

    /** All that undo and the slots bring back. */
    private static final class Scene {
        private final Juggler zero = new Juggler();
        private final Juggler one = new Juggler();
        private int floor;
        private int beatsPassed;
        private int throwsMade;
        private int passesCome;

        private void become(Scene other) {
            zero.become(other.zero);
            one.become(other.one);
            floor = other.floor;
            beatsPassed = other.beatsPassed;
            throwsMade = other.throwsMade;
            passesCome = other.passesCome;
        }

        private void begin(int clubsOfZero, int clubsOfOne) {
            zero.begin(clubsOfZero);
            one.begin(clubsOfOne);
            floor = 0;
            beatsPassed = 0;
            throwsMade = 0;
            passesCome = 0;
        }

        private Juggler juggler(int number) {
            return number == 0 ? zero : one;
        }

        private int clubs() {
            return zero.clubs() + one.clubs() + floor;
        }

        /** Lets beats pass, and tells how many clubs are dropped in them. */
        private int play(int beats) {
            int floorBefore = floor;
            for (int beat = 0; beat < beats; beat++) {
                letThrow(zero, one);
                letThrow(one, zero);
                zero.endBeat();
                one.endBeat();
            }
            beatsPassed += beats;
            return floor - floorBefore;
        }

        private void letThrow(Juggler thrower, Juggler partner) {
            if (!thrower.expects(0)) {
                return;
            }
            throwsMade++;
            int height = thrower.heightAt(thrower.place);
            boolean isPass = thrower.isPassAt(thrower.place);
            Juggler catcher = isPass ? partner : thrower;
            if (height == 0) {
                thrower.slips++;
                floor++;
            } else if (catcher.expects(height)) {
                thrower.clashes++;
                floor++;
            } else {
                catcher.expect(height);
                passesCome += oneIf(isPass);
            }
        }

        private boolean standsLike(Scene other) {
            return zero.standsLike(other.zero) && one.standsLike(other.one);
        }
    }

    /** The text that is read as a program or as a pattern. */
    private static final class Pad {
        private static final int COLON = 1, FIRST_THROW = 2;

        private final int[] codes = new int[PAD_SIZE];
        private int length;

        private void append(int code) {
            setAt(codes, length, code);
            length++;
        }

        private void clear() {
            length = 0;
        }

        private int codeAt(int index) {
            return valueAt(codes, index);
        }

        private int digit(int index) {
            return codeAt(index) - '0';
        }

        private boolean isHeightAt(int index) {
            return isHeight(codeAt(index));
        }

        private int programFault() {
            int throwsRead = 0;
            for (int index = 0; index < length; index++) {
                if (!canStand(index, throwsRead)) {
                    return index;
                }
                if (index >= FIRST_THROW && isHeightAt(index)) {
                    throwsRead++;
                }
            }
            return throwsRead == 0 ? length : NONE;
        }

        private boolean canStand(int index, int throwsRead) {
            int code = codeAt(index);
            if (index == 0) {
                return code == '0' || code == '1';
            }
            if (index == COLON) {
                return code == ':';
            }
            if (code == 'p') {
                return isHeightAt(index - 1) && digit(index - 1) != 0;
            }
            return isHeight(code) && throwsRead < MOST_THROWS;
        }
    }

    /** A row of heights that one juggler throws again and again; what it tells holds for sound ones. */
    private static final class Pattern {
        private final int[] heights = new int[MOST_THROWS];
        private int length;

        /** Takes the pattern of the pad, and tells whether the pad has one. */
        private boolean learn(Pad pad) {
            if (!isWithin(pad.length, 1, MOST_THROWS)) {
                return false;
            }
            for (int index = 0; index < pad.length; index++) {
                if (!pad.isHeightAt(index)) {
                    return false;
                }
                setAt(heights, index, pad.digit(index));
            }
            length = pad.length;
            return true;
        }

        private int heightAt(int place) {
            return valueAt(heights, leftOver(place, length));
        }

        private int landing(int place) {
            return leftOver(place + heightAt(place), length);
        }

        private boolean isSound() {
            int landed = 0;
            for (int place = 0; place < length; place++) {
                landed |= 1 << landing(place);
            }
            return landed == (1 << length) - 1;
        }

        private int clubs() {
            int sum = 0;
            for (int place = 0; place < length; place++) {
                sum += heightAt(place);
            }
            return length > 0 ? sum / length : 0;
        }

        private int startState() {
            int state = 0;
            // no throw is higher than 7, so what was made more than 7 beats ago has come already
            for (int time = 1 - BEATS; time < 0; time++) {
                int beat = time + heightAt(time);
                if (beat >= 0) {
                    state |= 1 << beat;
                }
            }
            return state;
        }

        private int orbits() {
            int found = 0;
            int seen = 0;
            for (int place = 0; place < length; place++) {
                int orbit = orbitThrough(place);
                if (orbit != 0 && !has(seen, place)) {
                    found++;
                }
                seen |= orbit;
            }
            return found;
        }

        /** The places of an orbit as a set; the empty one if no club goes through the place. */
        private int orbitThrough(int place) {
            if (heightAt(place) == 0) {
                return 0;
            }
            int orbit = 0;
            int reached = place;
            for (int step = 0; step < length; step++) {
                orbit |= 1 << reached;
                reached = landing(reached);
            }
            return orbit;
        }

        private int period() {
            for (int turn = 1; turn < length; turn++) {
                if (comesAgainBehind(turn)) {
                    return turn;
                }
            }
            return length;
        }

        private boolean comesAgainBehind(int turn) {
            for (int place = 0; place < length; place++) {
                if (heightAt(place) != heightAt(place + turn)) {
                    return false;
                }
            }
            return true;
        }

        private int heightTurnedBack(int place) {
            for (int from = 0; from < length; from++) {
                if (length - 1 - landing(from) == place) {
                    return heightAt(from);
                }
            }
            return 0;
        }
    }

    /** The shortest ways from one state to all others. */
    private static final class Ways {
        private static final int UNREACHED = -1;

        private final int[] steps = new int[STATES];
        private final int[] firstThrows = new int[STATES];
        private final int[] lastThrows = new int[STATES];
        private final int[] reached = new int[STATES];
        private int reachedCount;

        /**
         * Breadth first, with the lowest throws first: so of the shortest ways to a state the first one is found,
         * as the states of each round are reached in the order of their first ways.
         */
        private void searchFrom(int state) {
            Arrays.fill(steps, UNREACHED);
            reachedCount = 0;
            reach(state, 0, 0, 0);
            for (int index = 0; index < reachedCount && index < STATES; index++) {
                goOnFrom(valueAt(reached, index));
            }
        }

        private void goOnFrom(int state) {
            if (!has(state, 0)) {
                makeThrow(state, 0);
                return;
            }
            for (int height = 1; height < BEATS; height++) {
                if (!has(state, height)) {
                    makeThrow(state, height);
                }
            }
        }

        private void makeThrow(int state, int height) {
            int next = (state | 1 << height) >> 1;
            int stepsBefore = stepsTo(state);
            reach(next, stepsBefore + 1, stepsBefore == 0 ? height : firstThrowTo(state), height);
        }

        private void reach(int state, int stepsMade, int firstThrow, int lastThrow) {
            if (stepsTo(state) != UNREACHED) {
                return;
            }
            setAt(steps, state, stepsMade);
            setAt(firstThrows, state, firstThrow);
            setAt(lastThrows, state, lastThrow);
            setAt(reached, reachedCount, state);
            reachedCount++;
        }

        private int stepsTo(int state) {
            return valueAt(steps, state);
        }

        private int firstThrowTo(int state) {
            return valueAt(firstThrows, state);
        }

        private int lastThrowTo(int state) {
            return valueAt(lastThrows, state);
        }
    }

    /** The scenes before the latest changes, in a ring whose places are used again. */
    private static final class History {
        private final Scene[] ring = new Scene[CHANGES_KEPT];
        private int oldest;
        private int size;

        private History() {
            for (int index = 0; index < ring.length; index++) {
                ring[index] = new Scene();
            }
        }

        private void record(Scene scene) {
            if (size < CHANGES_KEPT) {
                size++;
            } else {
                oldest = leftOver(oldest + 1, CHANGES_KEPT);
            }
            Scene latest = latest();
            if (latest != null) {
                latest.become(scene);
            }
        }

        private void takeBack(Scene scene) {
            Scene latest = latest();
            if (size > 0 && latest != null) {
                scene.become(latest);
                size--;
            }
        }

        private Scene latest() {
            int index = leftOver(oldest + size - 1, CHANGES_KEPT);
            return index >= 0 && index < ring.length ? ring[index] : null;
        }
    }

    /** A place for one saved scene. */
    private static final class Slot {
        private final Scene kept = new Scene();
        private boolean filled;

        private void keep(Scene scene) {
            kept.become(scene);
            filled = true;
        }
    }
}
