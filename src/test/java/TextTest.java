/** Promises 17 to 19: put, wipe, fault. */
public final class TextTest {
    public static void main(String[] args) {
        putAppends();
        putKeepsTheOrder();
        putRefuses();
        putFillsThePad();
        wipeEmpties();
        faultTells();
        faultChangesNothing();
        Check.finish();
    }

    private static void putAppends() {
        JugglerStates x = new JugglerStates();
        Check.due("one character", x.put('0'), 1);
        Check.due("eight characters", x.put(Check.pack(":1234567")), 9);
        Check.due("the lowest code", x.put(33), 10);
        Check.due("the highest code", x.put(126), 11);
        Check.due("length", x.count(5), 11);
        Check.due("no change is recorded", x.count(6), 0);
    }

    private static void putKeepsTheOrder() {
        JugglerStates x = new JugglerStates();
        x.put(Check.pack("0:12"));
        x.put(Check.pack("34p"));
        x.read();
        for (int place = 0; place < 4; place++) {
            Check.due("height " + place, x.thrown(0, place, 0), place + 1);
            Check.due("pass " + place, x.thrown(0, place, 1), place == 3 ? 1 : 0);
        }
    }

    private static void putRefuses() {
        JugglerStates x = new JugglerStates();
        x.put('3');
        long[] wrong = {
            0, 32, 127, 128, 255, 1, -1, Long.MIN_VALUE, Long.MAX_VALUE, 0x3300, 0x330033, 0x3320, 0x2033, 0x337F,
            0x7F33, 0x3333333333333300L, 0x3300333333333333L, 0x2033333333333333L, 0xB333333333333333L,
            0x0100000000000033L, 0x3333333333333380L, 0x100000033L, 0x3300000000L
        };
        for (long packed : wrong) {
            Check.due("put(" + packed + ")", x.put(packed), JugglerStates.BAD_VALUE);
        }
        Check.due("nothing changed", x.count(5), 1);
    }

    private static void putFillsThePad() {
        JugglerStates x = new JugglerStates();
        Check.write(x, "333333333333333333333333");
        Check.due("length", x.count(5), 24);
        Check.due("seven are too many", x.put(Check.pack("3333333")), JugglerStates.TOO_MANY);
        Check.due("nothing changed", x.count(5), 24);
        Check.due("a wrong code comes first", x.put(0x3333333333333320L), JugglerStates.BAD_VALUE);
        Check.due("six fill it", x.put(Check.pack("333333")), 30);
        Check.due("one is too many", x.put('3'), JugglerStates.TOO_MANY);
        Check.due("length", x.count(5), 30);
        Check.due("wipe", x.wipe(), 30);
        Check.due("room again", x.put(Check.pack("33333333")), 8);
    }

    private static void wipeEmpties() {
        JugglerStates x = new JugglerStates();
        Check.due("empty", x.wipe(), 0);
        Check.write(x, "0:31");
        Check.due("wipe", x.wipe(), 4);
        Check.due("length", x.count(5), 0);
        Check.due("wiped is empty", x.fault(), 0);
        Check.due("no change is recorded", x.count(6), 0);
        Check.write(x, "1:3");
        Check.due("a new text", x.fault(), JugglerStates.NONE);
        Check.due("no rest of the old one", x.read(), 1);
        Check.due("one throw", x.of(1, 2), 1);
    }

    private static void faultTells() {
        faultOf("", 0);
        faultOf("0", 1);
        faultOf("1", 1);
        faultOf("2", 0);
        faultOf("/", 0);
        faultOf(":", 0);
        faultOf("p", 0);
        faultOf("0:", 2);
        faultOf("00", 1);
        faultOf("0;", 1);
        faultOf("0:p", 2);
        faultOf("0::", 2);
        faultOf("0:8", 2);
        faultOf("0:/", 2);
        faultOf("0:0", JugglerStates.NONE);
        faultOf("1:7", JugglerStates.NONE);
        faultOf("0:0p", 3);
        faultOf("0:1p", JugglerStates.NONE);
        faultOf("0:7p", JugglerStates.NONE);
        faultOf("0:1pp", 4);
        faultOf("0:1p0p", 5);
        faultOf("0:1q", 3);
        faultOf("0:1P", 3);
        faultOf("0:18", 3);
        faultOf("0:1p:", 4);
        faultOf("0:12345670", JugglerStates.NONE);
        faultOf("0:12345677p", JugglerStates.NONE);
        faultOf("0:12345670p", 10);
        faultOf("0:123456701", 10);
        faultOf("0:1p2p3p4p5p6p7p7p", JugglerStates.NONE);
        faultOf("0:1p2p3p4p5p6p7p7p1", 18);
        faultOf("0:1p2p3p4p5p6p7p7pp", 18);
        faultOf("0:333333333333333333333333333!", 10);
        faultOf("3!!!!!!!!!!!!!!!!!!!!!!!!!!!!!", 0);
    }

    private static void faultOf(String text, int due) {
        JugglerStates x = new JugglerStates();
        Check.write(x, text);
        Check.due("length of " + text, x.count(5), text.length());
        Check.due("fault of " + text, x.fault(), due);
        Check.due("read of " + text, x.read(), due == JugglerStates.NONE ? text.charAt(0) - '0' : JugglerStates.BAD_TEXT);
    }

    private static void faultChangesNothing() {
        JugglerStates x = new JugglerStates();
        Check.write(x, "0:3");
        x.fault();
        Check.due("pad stays", x.count(5), 3);
        Check.due("no change is recorded", x.count(6), 0);
    }
}
