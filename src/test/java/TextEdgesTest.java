/** The edges that "Texts" and the promises 17 to 19 name: a test for each sentence. */
public final class TextEdgesTest {
    private static final String FULL = "333333333333333333333333333333";

    public static void main(String[] args) {
        terms();
        putting();
        wipeAndFault();
        Check.finish();
    }

    private static void terms() {
        Check.sentence("The pad is a text of at most 30 characters.", TextEdgesTest::thirtyCharacters);
        Check.sentence("As a program it is: juggler \":\" throw { throw }, with 1 to 8 throws", TextEdgesTest::oneToEightThrows);
        Check.sentence("throw = height [ \"p\" ]", TextEdgesTest::heightAndPass);
        Check.sentence("a juggler is 0 or 1", TextEdgesTest::jugglers);
        Check.sentence("a height a digit from 0 to 7", TextEdgesTest::heights);
        Check.sentence("\"p\": it is a pass (not with the height 0).", TextEdgesTest::noPassOfHeightZero);
        Check.sentence("As a pattern it is 1 to 8 heights.", TextEdgesTest::patterns);
        Check.sentence("The fault is the index of the first character that cannot stand at its place when the text is read"
            + " from left to right as a program;", TextEdgesTest::firstFault);
        Check.sentence("if there is none and the text ends too early (also if it is empty), it is the length of the text.",
            TextEdgesTest::endsTooEarly);
    }

    private static void putting() {
        Check.sentence("Appends characters to the pad.", TextEdgesTest::appends);
        Check.sentence("its lowest 8 bits are the last character, the next 8 bits the one before, and so on;",
            TextEdgesTest::lowestBitsAreLast);
        Check.sentence("8 bits that are 0 mean that there are no more characters, and everything above them has to be 0,"
            + " too.", TextEdgesTest::nothingAboveZero);
        Check.sentence("- `characters`: 1 to 8 characters", TextEdgesTest::oneToEightCharacters);
        Check.sentence("BAD_VALUE if there is no character, a code is not 33 to 126,", TextEdgesTest::codes);
        Check.sentence("or a bit above 8 bits that are 0 is not 0;", TextEdgesTest::eachBitAbove);
        Check.sentence("Returns the length of the pad then;", TextEdgesTest::lengthThen);
        Check.sentence("TOO_MANY if the pad would be longer than 30.", TextEdgesTest::longerThanThirty);
    }

    private static void wipeAndFault() {
        Check.sentence("Empties the pad, and returns the length that it had.", TextEdgesTest::wipes);
        Check.sentence("Returns the fault of the pad as a program, NONE if there is none.", TextEdgesTest::noFault);
    }

    // ---- the terms

    private static void thirtyCharacters() {
        JugglerStates x = new JugglerStates();
        for (int length = 1; length <= 30; length++) {
            Check.due("put", x.put('!'), length);
        }
        Check.due("one more", x.put('!'), JugglerStates.TOO_MANY);
        Check.due("length", x.count(5), 30);
        Check.due("the last character is kept", Scenes.withPad(FULL).count(5), 30);
    }

    private static void oneToEightThrows() {
        faultOf("0:", 2);
        StringBuilder text = new StringBuilder("0:");
        StringBuilder passes = new StringBuilder("1:");
        for (int length = 1; length <= 8; length++) {
            text.append('3');
            passes.append("3p");
            faultOf(text.toString(), JugglerStates.NONE);
            faultOf(passes.toString(), JugglerStates.NONE);
        }
        faultOf(text + "p", JugglerStates.NONE);
        faultOf(text + "3", 10);
        faultOf(text + "p3", 11);
        faultOf(passes + "3", 18);
        faultOf(passes + "p", 18);
        faultOf("0;3", 1);
        faultOf("03", 1);
        faultOf("0::3", 2);
        faultOf("0:3:", 3);
    }

    private static void heightAndPass() {
        faultOf("0:3", JugglerStates.NONE);
        faultOf("0:3p", JugglerStates.NONE);
        faultOf("0:3pp", 4);
        faultOf("0:p", 2);
        faultOf("0:p3", 2);
        faultOf("0:33p", JugglerStates.NONE);
        faultOf("0:3p3", JugglerStates.NONE);
        faultOf("0:3P", 3);
        faultOf("0:3q", 3);
        faultOf("0:3o", 3);
    }

    private static void jugglers() {
        faultOf("0:3", JugglerStates.NONE);
        faultOf("1:3", JugglerStates.NONE);
        faultOf("2:3", 0);
        faultOf("/:3", 0);
        faultOf("9:3", 0);
        faultOf(":3", 0);
    }

    private static void heights() {
        for (char code = 33; code <= 126; code++) {
            boolean isHeight = code >= '0' && code <= '7';
            faultOf("0:" + code, isHeight ? JugglerStates.NONE : 2);
            Check.due("the pattern " + code, Scenes.withPad("" + code).pattern(0), isHeight ? 1 : JugglerStates.BAD_TEXT);
        }
        faultOf("0:8", 2);
        faultOf("0:/", 2);
        faultOf("0:78", 3);
    }

    private static void noPassOfHeightZero() {
        faultOf("0:0", JugglerStates.NONE);
        faultOf("0:0p", 3);
        faultOf("0:1p", JugglerStates.NONE);
        faultOf("0:7p", JugglerStates.NONE);
        faultOf("0:10p", 4);
        faultOf("0:3p0p", 5);
        faultOf("0:01p", JugglerStates.NONE);
    }

    private static void patterns() {
        Check.due("empty", new JugglerStates().pattern(0), JugglerStates.BAD_TEXT);
        Check.due("one height", Scenes.withPad("0").pattern(0), 1);
        Check.due("eight heights", Scenes.withPad("33333333").pattern(0), 1);
        Check.due("nine heights", Scenes.withPad("333333333").pattern(0), JugglerStates.BAD_TEXT);
        Check.due("thirty heights", Scenes.withPad(FULL).pattern(0), JugglerStates.BAD_TEXT);
        Check.due("no height at the end", Scenes.withPad("3333333p").pattern(0), JugglerStates.BAD_TEXT);
        Check.due("a pass", Scenes.withPad("3p").pattern(0), JugglerStates.BAD_TEXT);
        Check.due("a program", Scenes.withPad("1:3").pattern(0), JugglerStates.BAD_TEXT);
    }

    private static void firstFault() {
        faultOf("!", 0);
        faultOf("!:9pp", 0);
        faultOf("0!9pp", 1);
        faultOf("0:9pp", 2);
        faultOf("0:3pp9", 4);
        faultOf("0:3p9pp", 4);
        faultOf("0:1234567012", 10);
        faultOf("0:0p9", 3);
        faultOf("3" + FULL.substring(1), 0);
        faultOf("0:" + FULL.substring(2), 10);
        faultOf("0:1p2p3p4p5p6p7p7p!!!!!!!!!!!!", 18);
        faultOf("1:11111111p1", 11);
    }

    private static void endsTooEarly() {
        faultOf("", 0);
        faultOf("0", 1);
        faultOf("1", 1);
        faultOf("0:", 2);
        faultOf("1:", 2);
        faultOf("2", 0);
        faultOf("0!", 1);
        Check.due("a wiped pad", wiped().fault(), 0);
        Check.due("a pad that was read", read().fault(), 0);
    }

    private static JugglerStates wiped() {
        JugglerStates x = Scenes.withPad("0:3");
        x.wipe();
        return x;
    }

    private static JugglerStates read() {
        JugglerStates x = Scenes.withPad("0:3");
        x.read();
        return x;
    }

    private static void faultOf(String text, int due) {
        JugglerStates x = Scenes.withPad(text);
        Check.due("fault of " + text, x.fault(), due);
        boolean isProgram = due == JugglerStates.NONE;
        Check.due("read of " + text, x.read(), isProgram ? text.charAt(0) - '0' : JugglerStates.BAD_TEXT);
        Check.due("length behind it", x.count(5), isProgram ? 0 : text.length());
    }

    // ---- put

    private static void appends() {
        JugglerStates x = new JugglerStates();
        Check.due("put", x.put('1'), 1);
        Check.due("put", x.put(Check.pack(":6p")), 4);
        Check.due("put", x.put(Check.pack("5432107p")), 12);
        Check.due("eight throws", x.fault(), JugglerStates.NONE);
        Check.due("read", x.read(), 1);
        for (int place = 0; place < 8; place++) {
            Check.due("height " + place, x.thrown(1, place, 0), place == 7 ? 7 : 6 - place);
            Check.due("pass " + place, x.thrown(1, place, 1), place == 0 || place == 7 ? 1 : 0);
        }
        Check.due("put behind read begins anew", x.put('0'), 1);
        Check.due("fault", x.fault(), 1);
    }

    private static void lowestBitsAreLast() {
        JugglerStates x = new JugglerStates();
        // the text "0:31"
        Check.due("put", x.put(0x30L << 24 | 0x3A << 16 | 0x33 << 8 | 0x31), 4);
        Check.due("read", x.read(), 0);
        Check.due("the last but one", x.thrown(0, 0, 0), 3);
        Check.due("the last one", x.thrown(0, 1, 0), 1);
        // the text "1:765432", with the character 1 in the highest 8 bits
        Check.due("put", x.put(0x313A373635343332L), 8);
        Check.due("read", x.read(), 1);
        for (int place = 0; place < 6; place++) {
            Check.due("height " + place, x.thrown(1, place, 0), 7 - place);
        }
    }

    private static void nothingAboveZero() {
        JugglerStates x = new JugglerStates();
        Check.due("one character", x.put(0x33), 1);
        Check.due("a zero at the end", x.put(0x3300), JugglerStates.BAD_VALUE);
        Check.due("a zero between", x.put(0x330033), JugglerStates.BAD_VALUE);
        Check.due("a character far above", x.put(0x3300000000000033L), JugglerStates.BAD_VALUE);
        Check.due("seven, and a zero at the end", x.put(0x3333333333333300L), JugglerStates.BAD_VALUE);
        Check.due("a zero as the second one", x.put(0x3300333333333333L), JugglerStates.BAD_VALUE);
        Check.due("seven characters", x.put(0x33333333333333L), 8);
    }

    private static void oneToEightCharacters() {
        long packed = 0;
        for (int size = 1; size <= 8; size++) {
            packed = packed << 8 | '7';
            Check.due(size + " characters", new JugglerStates().put(packed), size);
        }
        Check.due("none", new JugglerStates().put(0), JugglerStates.BAD_VALUE);
    }

    private static void codes() {
        JugglerStates x = new JugglerStates();
        Check.due("no character", x.put(0), JugglerStates.BAD_VALUE);
        for (int code = 1; code <= 255; code++) {
            boolean fits = code >= 33 && code <= 126;
            x.wipe();
            Check.due("the code " + code, x.put(code), fits ? 1 : JugglerStates.BAD_VALUE);
        }
        for (int code : new int[] {1, 32, 127, 128, 160, 255}) {
            for (int shift = 0; shift < 64; shift += 8) {
                long packed = 0x3333333333333333L & ~(255L << shift) | (long) code << shift;
                Check.due("the code " + code + " at bit " + shift, new JugglerStates().put(packed), JugglerStates.BAD_VALUE);
            }
        }
        for (int code : new int[] {33, 126}) {
            for (int shift = 0; shift < 64; shift += 8) {
                long packed = 0x3333333333333333L & ~(255L << shift) | (long) code << shift;
                Check.due("the code " + code + " at bit " + shift, new JugglerStates().put(packed), 8);
            }
        }
        for (long packed : new long[] {-1, Long.MIN_VALUE, Long.MAX_VALUE, Integer.MIN_VALUE, Integer.MAX_VALUE}) {
            Check.due("put(" + packed + ")", new JugglerStates().put(packed), JugglerStates.BAD_VALUE);
        }
    }

    private static void eachBitAbove() {
        JugglerStates x = new JugglerStates();
        for (int size = 1; size <= 6; size++) {
            long packed = 0x333333333333L >>> 8 * (6 - size);
            for (int bit = 8 * (size + 1); bit < 64; bit++) {
                Check.due(size + " characters, and the bit " + bit, x.put(packed | 1L << bit), JugglerStates.BAD_VALUE);
            }
            Check.due(size + " characters", x.put(packed), size);
            x.wipe();
        }
    }

    private static void lengthThen() {
        JugglerStates x = new JugglerStates();
        int length = 0;
        for (int size = 1; size <= 7; size++) {
            length += size;
            Check.due("put of " + size, x.put(Check.pack("!!!!!!!".substring(0, size))), length);
            Check.due("length", x.count(5), length);
        }
    }

    private static void longerThanThirty() {
        for (int length = 22; length <= 30; length++) {
            for (int size = 1; size <= 8; size++) {
                JugglerStates x = Scenes.withPad(FULL.substring(0, length));
                int due = length + size <= 30 ? length + size : JugglerStates.TOO_MANY;
                Check.due(size + " more than " + length, x.put(Check.pack(FULL.substring(0, size))), due);
                Check.due("length", x.count(5), due == JugglerStates.TOO_MANY ? length : due);
            }
        }
        JugglerStates x = Scenes.withPad(FULL);
        Check.due("no character to a full pad", x.put(0), JugglerStates.BAD_VALUE);
        Check.due("a wrong one to a full pad", x.put(127), JugglerStates.BAD_VALUE);
    }

    // ---- wipe, fault

    private static void wipes() {
        JugglerStates x = new JugglerStates();
        Check.due("an empty pad", x.wipe(), 0);
        for (int length : new int[] {1, 8, 29, 30}) {
            Check.write(x, FULL.substring(0, length));
            Check.due("a pad of " + length, x.wipe(), length);
            Check.due("length", x.count(5), 0);
            Check.due("fault of the empty pad", x.fault(), 0);
            Check.due("twice", x.wipe(), 0);
        }
        Check.due("room for all again", x.put(Check.pack("33333333")), 8);
        JugglerStates busy = Scenes.busy("0:3");
        String before = Sight.scene(busy);
        Check.due("wipe", busy.wipe(), 3);
        Check.due("it is no change", busy.count(6), 6);
        Check.holds("all else is as before", Sight.scene(busy).equals(before));
    }

    private static void noFault() {
        faultOf("0:0", JugglerStates.NONE);
        faultOf("1:7p", JugglerStates.NONE);
        faultOf("0:00000000", JugglerStates.NONE);
        faultOf("1:7p7p7p7p7p7p7p7p", JugglerStates.NONE);
        JugglerStates x = Scenes.busy("0:3");
        JugglerStates y = Scenes.busy("0:3");
        Check.due("no fault", x.fault(), JugglerStates.NONE);
        String seen = Sight.everything(x);
        String due = Sight.everything(y);
        Check.holds("all is as before:\n" + seen + "\nis\n" + due, seen.equals(due));
        x = Scenes.busy("0:38");
        y = Scenes.busy("0:38");
        Check.due("a fault", x.fault(), 3);
        Check.holds("all is as before", Sight.everything(x).equals(Sight.everything(y)));
    }
}
