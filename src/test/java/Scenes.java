/** Makes objects that stand as a test wants them. */
final class Scenes {
    private Scenes() {
    }

    /** The throws of both programs, without the jugglers' numbers; then both get clubs. */
    static JugglerStates juggling(String zero, String one, int clubsOfZero, int clubsOfOne) {
        JugglerStates x = new JugglerStates();
        Check.program(x, "0:" + zero);
        Check.program(x, "1:" + one);
        Check.due("start", x.start(clubsOfZero, clubsOfOne), 0);
        return x;
    }

    static JugglerStates withPad(String text) {
        JugglerStates x = new JugglerStates();
        Check.write(x, text);
        return x;
    }

    /** Gives both jugglers any states, by dropping what does not belong to them. */
    static void setStates(JugglerStates x, int zero, int one) {
        x.start(8, 8);
        for (int beat = 0; beat < 8; beat++) {
            if ((zero >> beat & 1) == 0) {
                x.drop(0, beat);
            }
            if ((one >> beat & 1) == 0) {
                x.drop(1, beat);
            }
        }
        Check.due("state of 0 is set", x.of(0, 0), zero);
        Check.due("state of 1 is set", x.of(1, 0), one);
    }

    static JugglerStates withStates(int zero, int one) {
        JugglerStates x = new JugglerStates();
        setStates(x, zero, one);
        return x;
    }

    static void passAll(JugglerStates x, int beats) {
        int left = beats;
        while (left > 0) {
            int some = Math.min(left, 200);
            if (x.pass(some) < 0) {
                Check.holds("pass(" + some + ") is answered", false);
                return;
            }
            left -= some;
        }
    }

    /** Clubs that slipped, clashed and lie on the floor, places within programs, a full history, and two full slots. */
    static JugglerStates busy(String pad) {
        JugglerStates x = juggling("5p20", "3p41p", 4, 3);
        x.pass(1);
        Check.holds("save(1)", x.save(1) == 7);
        x.pass(1);
        x.pick(1, 7);
        x.pass(1);
        x.pass(1);
        Check.holds("save(0)", x.save(0) == 7);
        x.pass(3);
        x.pick(0, 5);
        Check.write(x, pad);
        Check.holds("clubs to come", x.of(0, 1) > 0 && x.of(1, 1) > 0);
        Check.due("changes", x.count(6), 6);
        Check.holds("clubs on the floor", x.count(1) > 0);
        return x;
    }
}
