/** What can be seen of an object, as a text: objects with the same text are in the same state. */
final class Sight {
    private Sight() {
    }

    /** The jugglers, the floor and the counts: all that undo and the slots bring back. Changes nothing. */
    static String scene(JugglerStates x) {
        StringBuilder seen = new StringBuilder();
        for (int juggler = 0; juggler < 2; juggler++) {
            for (int what = 0; what <= 5; what++) {
                seen.append(x.of(juggler, what)).append(' ');
            }
            // one place too far, so that a program that is longer than it says is seen, too
            int throwsOfIt = x.of(juggler, 2);
            for (int place = 0; place <= throwsOfIt; place++) {
                seen.append(x.thrown(juggler, place, 0)).append(' ').append(x.thrown(juggler, place, 1)).append(' ');
            }
        }
        for (int what = 0; what <= 4; what++) {
            seen.append(x.count(what)).append(' ');
        }
        return seen.toString();
    }

    /** Changes nothing. */
    static String pad(JugglerStates x) {
        StringBuilder seen = new StringBuilder();
        seen.append(x.count(5)).append(' ').append(x.fault()).append(' ').append(x.pattern(0)).append(' ');
        for (int place = 0; place < 8; place++) {
            seen.append(x.back(place)).append(' ');
        }
        return seen.toString();
    }

    /** Uses up the history, and empties the pad if it is a program that is one character short or whole. */
    static String everything(JugglerStates x) {
        StringBuilder seen = new StringBuilder();
        seen.append(pad(x)).append("| ").append(scene(x));
        for (int left = x.count(6); left > 0; left--) {
            seen.append("| undo ").append(x.undo()).append(": ").append(scene(x));
        }
        for (int slot = 0; slot < 2; slot++) {
            seen.append("| slot ").append(x.restore(slot)).append(": ").append(scene(x));
        }
        x.put('3');
        seen.append("| read ").append(x.read()).append(": ").append(scene(x));
        return seen.toString();
    }
}
