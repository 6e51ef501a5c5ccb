/** Counts the answers that are not as due, and packs texts as the call put wants them. */
final class Check {
    private static int wrong = 0;
    private static int checked = 0;

    private Check() {
    }

    static void due(String call, long got, long want) {
        checked++;
        if (got != want) {
            wrong++;
            System.out.println(call + " answered " + got + ", due is " + want);
        }
    }

    static void holds(String what, boolean holds) {
        checked++;
        if (!holds) {
            wrong++;
            System.out.println("does not hold: " + what);
        }
    }

    /** At most 8 characters, the first one highest. */
    static long pack(String text) {
        long packed = 0;
        for (int index = 0; index < text.length(); index++) {
            packed = packed << 8 | text.charAt(index);
        }
        return packed;
    }

    static void write(JugglerStates juggling, String text) {
        for (int from = 0; from < text.length(); from += 8) {
            juggling.put(pack(text.substring(from, Math.min(from + 8, text.length()))));
        }
    }

    /** Wipes the pad first, so that what follows is the whole text. */
    static void rewrite(JugglerStates juggling, String text) {
        juggling.wipe();
        write(juggling, text);
    }

    static void program(JugglerStates juggling, String text) {
        rewrite(juggling, text);
        due("read of " + text, juggling.read(), text.charAt(0) - '0');
    }

    static void finish() {
        System.out.println(checked + " checked, " + wrong + " wrong");
        if (wrong != 0) {
            System.exit(1);
        }
    }
}
