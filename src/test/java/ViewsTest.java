/** Promises 7 to 9: of, thrown, count. */
public final class ViewsTest {
    public static void main(String[] args) {
        ofTells();
        ofRefuses();
        thrownTells();
        thrownRefuses();
        countTells();
        countRefuses();
        Check.finish();
    }

    /** 0 throws 2, 3 to itself and a slip; 1 passes into what 0 holds. */
    private static JugglerStates scene() {
        JugglerStates x = new JugglerStates();
        Check.program(x, "0:230");
        Check.program(x, "1:1p4p");
        x.start(3, 2);
        return x;
    }

    private static void ofTells() {
        JugglerStates x = scene();
        // beat 1: the 2 of 0 clashes with its third club, the 1p of 1 with its second one
        Check.due("beat 1", x.pass(1), 2);
        Check.due("state of 0", x.of(0, 0), 3);
        Check.due("state of 1", x.of(1, 0), 1);
        Check.due("clashes of 0", x.of(0, 5), 1);
        Check.due("clashes of 1", x.of(1, 5), 1);
        // beat 2: the 3 of 0 and the 4p of 1 come
        Check.due("beat 2", x.pass(1), 0);
        Check.due("state of 0", x.of(0, 0), 13);
        Check.due("clubs of 0", x.of(0, 1), 3);
        Check.due("state of 1", x.of(1, 0), 0);
        Check.due("clubs of 1", x.of(1, 1), 0);
        Check.due("place of 0", x.of(0, 3), 2);
        Check.due("place of 1", x.of(1, 3), 0);
        // beat 3: a slip of 0
        Check.due("beat 3", x.pass(1), 1);
        Check.due("slips of 0", x.of(0, 4), 1);
        Check.due("slips of 1", x.of(1, 4), 0);
        Check.due("throws of 0", x.of(0, 2), 3);
        Check.due("throws of 1", x.of(1, 2), 2);
        Check.due("place of 0", x.of(0, 3), 0);
        Check.due("place of 1", x.of(1, 3), 1);
    }

    private static void ofRefuses() {
        JugglerStates x = scene();
        Check.due("of(2, 0)", x.of(2, 0), JugglerStates.NO_SUCH);
        Check.due("of(-1, 9)", x.of(-1, 9), JugglerStates.NO_SUCH);
        Check.due("of(0, 6)", x.of(0, 6), JugglerStates.BAD_VALUE);
        Check.due("of(1, -1)", x.of(1, -1), JugglerStates.BAD_VALUE);
    }

    private static void thrownTells() {
        JugglerStates x = scene();
        Check.due("height", x.thrown(0, 1, 0), 3);
        Check.due("no pass", x.thrown(0, 1, 1), 0);
        Check.due("last height", x.thrown(0, 2, 0), 0);
        Check.due("height of a pass", x.thrown(1, 1, 0), 4);
        Check.due("pass", x.thrown(1, 1, 1), 1);
        x.pass(1);
        Check.due("places are those of the program", x.thrown(0, 0, 0), 2);
    }

    private static void thrownRefuses() {
        JugglerStates x = scene();
        Check.due("thrown(2, 0, 0)", x.thrown(2, 0, 0), JugglerStates.NO_SUCH);
        Check.due("thrown(-1, 0, 0)", x.thrown(-1, 0, 0), JugglerStates.NO_SUCH);
        Check.due("thrown(0, 3, 0)", x.thrown(0, 3, 0), JugglerStates.NO_SUCH);
        Check.due("thrown(1, 2, 1)", x.thrown(1, 2, 1), JugglerStates.NO_SUCH);
        Check.due("thrown(0, -1, 0)", x.thrown(0, -1, 0), JugglerStates.NO_SUCH);
        Check.due("thrown(0, 3, 2)", x.thrown(0, 3, 2), JugglerStates.NO_SUCH);
        Check.due("thrown(0, 2, 2)", x.thrown(0, 2, 2), JugglerStates.BAD_VALUE);
        Check.due("thrown(0, 2, -1)", x.thrown(0, 2, -1), JugglerStates.BAD_VALUE);
    }

    private static void countTells() {
        JugglerStates x = scene();
        x.pass(3);
        Check.write(x, "12345");
        Check.due("beats", x.count(0), 3);
        Check.due("floor", x.count(1), 3);
        Check.due("clubs", x.count(2), 5);
        Check.due("throws", x.count(3), 5);
        Check.due("passes that came", x.count(4), 1);
        Check.due("pad", x.count(5), 5);
        Check.due("changes", x.count(6), 4);
    }

    private static void countRefuses() {
        JugglerStates x = scene();
        Check.due("count(7)", x.count(7), JugglerStates.BAD_VALUE);
        Check.due("count(-1)", x.count(-1), JugglerStates.BAD_VALUE);
    }
}
