import java.io.IOException;
import java.nio.file.Files;
import java.nio.file.Path;

/** Counts the answers that are not as due, and packs texts as the call put wants them. */
final class Check {
    private static final Path DOCUMENT = Path.of("../shared/DOC.md");
    private static int wrong = 0;
    private static int checked = 0;
    private static String document;

    private Check() {
    }

    static void due(String call, long got, long want) {
        checked++;
        if (got != want) {
            wrong++;
            System.out.println(call + " answered " + got + ", due is " + want);
        }
    }

    static int checkedSoFar() {
        return checked;
    }

    static void holds(String what, boolean holds) {
        checked++;
        if (!holds) {
            wrong++;
            System.out.println("does not hold: " + what);
        }
    }

    /** Runs the test of one sentence, named by the document's own words, so that no test outlives its sentence. */
    static void sentence(String words, Runnable test) {
        holds("the document says: " + words, document().contains(plain(words)));
        int wrongBefore = wrong;
        test.run();
        if (wrong != wrongBefore) {
            System.out.println("  broken: " + words);
        }
    }

    private static String document() {
        if (document == null) {
            try {
                document = plain(Files.readString(DOCUMENT));
            } catch (IOException missing) {
                throw new IllegalStateException("no document at " + DOCUMENT, missing);
            }
        }
        return document;
    }

    private static String plain(String words) {
        return words.replace("`", "").replaceAll("\\s+", " ");
    }

    /** At most 8 characters, the first one highest. */
    static long pack(String text) {
        long packed = 0;
        for (int index = 0; index < text.length(); index++) {
            packed = packed << 8 | text.charAt(index);
        }
        return packed;
    }

    static void write(JugglerStates juggling, String text) {
        for (int from = 0; from < text.length(); from += 8) {
            juggling.put(pack(text.substring(from, Math.min(from + 8, text.length()))));
        }
    }

    /** Wipes the pad first, so that what follows is the whole text. */
    static void rewrite(JugglerStates juggling, String text) {
        juggling.wipe();
        write(juggling, text);
    }

    static void program(JugglerStates juggling, String text) {
        rewrite(juggling, text);
        due("read of " + text, juggling.read(), text.charAt(0) - '0');
    }

    static void finish() {
        System.out.println(checked + " checked, " + wrong + " wrong");
        if (wrong != 0) {
            System.exit(1);
        }
    }
}
