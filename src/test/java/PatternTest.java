/** Promises 13 to 16: pattern, back, way, howMany. */
public final class PatternTest {
    public static void main(String[] args) {
        patternTells();
        patternRefuses();
        patternChangesNothing();
        backTells();
        backRefuses();
        wayTells();
        wayOfNoThrows();
        wayThatThereIsNot();
        wayRefuses();
        howManyTells();
        howManyRefuses();
        Check.finish();
    }

    /** Each row: sound, clubs, start, orbits, orbit of the first place, period, without gaps. */
    private static void patternTells() {
        tells("0", 1, 0, 0, 0, 0, 1, 1);
        tells("1", 1, 1, 1, 1, 1, 1, 1);
        tells("7", 1, 7, 127, 1, 1, 1, 1);
        tells("77777777", 1, 7, 127, 1, 255, 1, 1);
        tells("00000000", 1, 0, 0, 0, 0, 1, 1);
        tells("3", 1, 3, 7, 1, 1, 1, 1);
        tells("333", 1, 3, 7, 3, 1, 1, 1);
        tells("3333", 1, 3, 7, 1, 15, 1, 1);
        tells("531", 1, 3, 7, 2, 5, 3, 1);
        tells("315", 1, 3, 19, 2, 1, 3, 0);
        tells("441", 1, 3, 7, 1, 7, 3, 1);
        tells("51", 1, 3, 11, 1, 3, 2, 0);
        tells("15", 1, 3, 21, 1, 3, 2, 0);
        tells("5151", 1, 3, 11, 1, 15, 2, 0);
        tells("40", 1, 2, 5, 1, 1, 2, 0);
        tells("04", 1, 2, 10, 1, 0, 2, 0);
        tells("330", 1, 2, 3, 2, 1, 3, 1);
        tells("6060", 1, 3, 21, 1, 5, 2, 0);
        tells("50505", 1, 3, 21, 3, 1, 5, 0);
    }

    private static void tells(String text, int... due) {
        JugglerStates x = new JugglerStates();
        Check.write(x, text);
        for (int what = 0; what < due.length; what++) {
            Check.due(text + ": pattern(" + what + ")", x.pattern(what), due[what]);
        }
    }

    private static void patternRefuses() {
        for (String text : new String[] {"", "8", "33p", "0:3", "123456712", "3/3", "p", "33a"}) {
            JugglerStates x = new JugglerStates();
            Check.write(x, text);
            Check.due(text + ": pattern(0)", x.pattern(0), JugglerStates.BAD_TEXT);
            Check.due(text + ": pattern(9)", x.pattern(9), JugglerStates.BAD_TEXT);
        }
        for (String text : new String[] {"21", "12", "10", "321", "43", "6666661", "00000001"}) {
            JugglerStates x = new JugglerStates();
            Check.write(x, text);
            Check.due(text + ": pattern(0)", x.pattern(0), 0);
            for (int what = 1; what <= 6; what++) {
                Check.due(text + ": pattern(" + what + ")", x.pattern(what), JugglerStates.NOT_POSSIBLE);
            }
            Check.due(text + ": pattern(7)", x.pattern(7), JugglerStates.BAD_VALUE);
            Check.due(text + ": pattern(-1)", x.pattern(-1), JugglerStates.BAD_VALUE);
        }
    }

    private static void patternChangesNothing() {
        JugglerStates x = new JugglerStates();
        Check.write(x, "531");
        x.pattern(2);
        x.back(1);
        Check.due("pad stays", x.count(5), 3);
        Check.due("no change", x.count(6), 0);
        Check.due("program stays", x.of(0, 2), 1);
    }

    private static void backTells() {
        turnsTo("3", "3");
        turnsTo("0", "0");
        turnsTo("531", "531");
        turnsTo("441", "441");
        turnsTo("450", "045");
        turnsTo("612", "126");
        turnsTo("67747045", "46057477");
        for (String text : new String[] {"51", "7131", "50505", "6316131", "66661", "42536031"}) {
            turnsTo(text, turnedByHand(text));
        }
    }

    /** The definition, place by place. */
    private static String turnedByHand(String text) {
        int length = text.length();
        char[] turned = new char[length];
        for (int place = 0; place < length; place++) {
            int height = text.charAt(place) - '0';
            turned[length - 1 - (place + height) % length] = text.charAt(place);
        }
        return new String(turned);
    }

    private static void turnsTo(String text, String turned) {
        JugglerStates x = new JugglerStates();
        Check.write(x, text);
        for (int place = 0; place < text.length(); place++) {
            Check.due(text + ": back(" + place + ")", x.back(place), turned.charAt(place) - '0');
        }
    }

    private static void backRefuses() {
        JugglerStates x = new JugglerStates();
        Check.due("empty pad", x.back(-1), JugglerStates.BAD_TEXT);
        Check.write(x, "321");
        Check.due("back(3)", x.back(3), JugglerStates.NO_SUCH);
        Check.due("back(-1)", x.back(-1), JugglerStates.NO_SUCH);
        Check.due("back(2)", x.back(2), JugglerStates.NOT_POSSIBLE);
        Check.rewrite(x, "333333333");
        Check.due("nine heights", x.back(9), JugglerStates.BAD_TEXT);
        Check.rewrite(x, "33333333");
        Check.due("eight heights", x.back(7), 3);
        Check.due("back(8)", x.back(8), JugglerStates.NO_SUCH);
    }

    private static void wayTells() {
        JugglerStates x = new JugglerStates();
        x.start(3, 1);
        due(x, 0, 11, 1, 4, 4);
        due(x, 0, 19, 1, 5, 5);
        // 7 to 19 to 25
        due(x, 0, 25, 2, 5, 5);
        due(x, 0, 35, 1, 6, 6);
        due(x, 1, 4, 1, 3, 3);
        due(x, 1, 64, 1, 7, 7);
        // 1 to 1 could be any 1, but it is there already
        Check.due("throws to the state of now", x.way(1, 1, 0), 0);
        x.start(2, 0);
        due(x, 0, 5, 1, 3, 3);
        // both 3 3 and 4 2 lead from 3 to 6
        due(x, 0, 6, 2, 3, 3);
        // both 4 4 and 5 3 lead from 3 to 12
        due(x, 0, 12, 2, 4, 4);
        x.start(3, 0);
        x.drop(0, 1);
        due(x, 0, 3, 1, 1, 1);
        x.start(2, 0);
        x.drop(0, 0);
        // a beat without a club is a throw with the height 0
        due(x, 0, 1, 1, 0, 0);
        due(x, 0, 4, 2, 0, 3);
        Check.due("throws to the state of now", x.way(0, 2, 0), 0);
        due(x, 0, 4, 2, 0, 3);
    }

    private static void due(JugglerStates x, int juggler, int state, int throwsMade, int first, int last) {
        String call = "way(" + juggler + ", " + state + ", ";
        Check.due(call + "0)", x.way(juggler, state, 0), throwsMade);
        Check.due(call + "1)", x.way(juggler, state, 1), first);
        Check.due(call + "2)", x.way(juggler, state, 2), last);
    }

    private static void wayOfNoThrows() {
        JugglerStates x = new JugglerStates();
        Check.due("from 0 to 0", x.way(1, 0, 0), 0);
        Check.due("first of none", x.way(1, 0, 1), JugglerStates.NONE);
        Check.due("last of none", x.way(1, 0, 2), JugglerStates.NONE);
        x.start(0, 8);
        Check.due("from 255 to 255", x.way(1, 255, 0), 0);
        Check.due("first of none", x.way(1, 255, 1), JugglerStates.NONE);
    }

    private static void wayThatThereIsNot() {
        JugglerStates x = new JugglerStates();
        x.start(7, 3);
        for (int what = 0; what <= 2; what++) {
            Check.due("other clubs", x.way(1, 3, what), JugglerStates.NOT_POSSIBLE);
            Check.due("beat 7 stays empty", x.way(1, 131, what), JugglerStates.NOT_POSSIBLE);
            Check.due("no clubs", x.way(1, 0, what), JugglerStates.NOT_POSSIBLE);
            Check.due("more clubs", x.way(0, 255, what), JugglerStates.NOT_POSSIBLE);
            Check.due("seven clubs", x.way(0, 254, what), JugglerStates.NOT_POSSIBLE);
        }
        Check.due("no change", x.count(6), 1);
    }

    private static void wayRefuses() {
        JugglerStates x = new JugglerStates();
        Check.due("way(2, 256, 3)", x.way(2, 256, 3), JugglerStates.NO_SUCH);
        Check.due("way(-1, 0, 0)", x.way(-1, 0, 0), JugglerStates.NO_SUCH);
        Check.due("way(0, 256, 0)", x.way(0, 256, 0), JugglerStates.BAD_VALUE);
        Check.due("way(0, -1, 0)", x.way(0, -1, 0), JugglerStates.BAD_VALUE);
        Check.due("way(0, 1, 3)", x.way(0, 1, 3), JugglerStates.BAD_VALUE);
        Check.due("way(0, 0, -1)", x.way(0, 0, -1), JugglerStates.BAD_VALUE);
    }

    private static void howManyTells() {
        JugglerStates x = new JugglerStates();
        Model model = new Model();
        for (int length = 1; length <= 5; length++) {
            for (int clubs = 0; clubs < 8; clubs++) {
                String call = "howMany(" + length + ", " + clubs + ")";
                Check.due(call, x.howMany(length, clubs), model.howMany(length, clubs));
            }
        }
        Check.due("howMany(3, 3)", x.howMany(3, 3), 31);
        Check.due("howMany(1, 0)", x.howMany(1, 0), 1);
        Check.due("howMany(5, 7)", x.howMany(5, 7), 1);
    }

    private static void howManyRefuses() {
        JugglerStates x = new JugglerStates();
        Check.due("howMany(0, 0)", x.howMany(0, 0), JugglerStates.BAD_VALUE);
        Check.due("howMany(6, 0)", x.howMany(6, 0), JugglerStates.BAD_VALUE);
        Check.due("howMany(-1, 1)", x.howMany(-1, 1), JugglerStates.BAD_VALUE);
        Check.due("howMany(1, 8)", x.howMany(1, 8), JugglerStates.BAD_VALUE);
        Check.due("howMany(1, -1)", x.howMany(1, -1), JugglerStates.BAD_VALUE);
        Check.due("howMany(big)", x.howMany(Integer.MAX_VALUE, Integer.MAX_VALUE), JugglerStates.BAD_VALUE);
    }
}
