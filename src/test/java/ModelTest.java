/** Long runs of calls, each answer held against that of the model; the same runs every time. (PatternTest has howMany.) */
public final class ModelTest {
    private static final int RUNS = 400;
    /** An object is used for 512 calls; a text that is written and read takes at most six of them. */
    private static final int CALLS = 506;
    private static final String[] WAYS_TO_BEGIN = {"0:", "1:", "", "0", ":"};

    private long seed;
    private JugglerStates x;
    private Model model;

    private ModelTest(long seed) {
        this.seed = seed * 2654435761L + 12345;
    }

    public static void main(String[] args) {
        for (int run = 0; run < RUNS; run++) {
            new ModelTest(run).play(run);
        }
        everyWay();
        Check.finish();
    }

    private int below(int bound) {
        seed = seed * 6364136223846793005L + 1442695040888963407L;
        return (int) ((seed >>> 33) % bound);
    }

    /** Mostly 0 to most, now and then just beside it or far away. */
    private int around(int least, int most) {
        switch (below(24)) {
            case 0: return least - 1;
            case 1: return most + 1;
            case 2: return below(2) == 0 ? Integer.MIN_VALUE : Integer.MAX_VALUE;
            default: return least + below(most - least + 1);
        }
    }

    private int juggler() {
        return below(30) == 0 ? below(2) * 3 - 1 : below(2);
    }

    private void play(int run) {
        x = new JugglerStates();
        model = new Model();
        int before = Check.checkedSoFar();
        while (Check.checkedSoFar() - before < CALLS) {
            one("run " + run + ", call " + (Check.checkedSoFar() - before) + ": ");
        }
    }

    private void one(String at) {
        int kind = below(100);
        if (kind < 40) {
            change(at, kind);
        } else if (kind < 70) {
            view(at, kind - 40);
        } else {
            text(at, kind - 70);
        }
    }

    private void change(String at, int kind) {
        int a = juggler();
        int b = around(0, 7);
        if (kind < 4) {
            int zero = around(0, 8);
            int one = below(4) == 0 ? around(0, 8) : below(5);
            Check.due(at + "start(" + zero + ", " + one + ")", x.start(zero, one), model.start(zero, one));
        } else if (kind < 14) {
            int beats = below(3) == 0 ? around(1, 200) : 1 + below(6);
            Check.due(at + "pass(" + beats + ")", x.pass(beats), model.pass(beats));
        } else if (kind < 18) {
            Check.due(at + "drop(" + a + ", " + b + ")", x.drop(a, b), model.drop(a, b));
        } else if (kind < 26) {
            Check.due(at + "pick(" + a + ", " + b + ")", x.pick(a, b), model.pick(a, b));
        } else if (kind < 30) {
            Check.due(at + "undo()", x.undo(), model.undo());
        } else if (kind < 32) {
            int slot = around(0, 1);
            Check.due(at + "save(" + slot + ")", x.save(slot), model.save(slot));
        } else if (kind < 34) {
            int slot = around(0, 1);
            Check.due(at + "restore(" + slot + ")", x.restore(slot), model.restore(slot));
        } else {
            write(program());
            Check.due(at + "read()", x.read(), model.read());
        }
    }

    private void view(String at, int kind) {
        int a = juggler();
        if (kind < 10) {
            int what = around(0, 5);
            Check.due(at + "of(" + a + ", " + what + ")", x.of(a, what), model.of(a, what));
        } else if (kind < 13) {
            int place = around(0, 7);
            int what = around(0, 1);
            String call = "thrown(" + a + ", " + place + ", " + what + ")";
            Check.due(at + call, x.thrown(a, place, what), model.thrown(a, place, what));
        } else if (kind < 20) {
            int what = around(0, 6);
            Check.due(at + "count(" + what + ")", x.count(what), model.count(what));
        } else if (kind < 22) {
            Check.due(at + "firstDrop()", x.firstDrop(), model.firstDrop());
        } else if (kind < 24) {
            Check.due(at + "comesRound()", x.comesRound(), model.comesRound());
        } else if (kind < 27) {
            int beats = around(1, 200);
            Check.due(at + "stateBehind(" + a + ", " + beats + ")", x.stateBehind(a, beats), model.stateBehind(a, beats));
        } else {
            int state = below(3) == 0 ? around(0, 255) : stateLike(a);
            int what = around(0, 2);
            Check.due(at + "way(" + a + ", " + state + ", " + what + ")", x.way(a, state, what), model.way(a, state, what));
        }
    }

    /** A state with as many clubs as the juggler has, so that there often is a way. */
    private int stateLike(int juggler) {
        int clubs = Math.min(7, model.of(juggler, 1));
        int state = 0;
        while (Integer.bitCount(state) < clubs) {
            state |= 1 << below(7);
        }
        return state;
    }

    private void text(String at, int kind) {
        if (kind < 4) {
            Check.due(at + "fault()", x.fault(), model.fault());
        } else if (kind < 5) {
            Check.due(at + "wipe()", x.wipe(), model.wipe());
        } else if (kind < 8) {
            long packed = oddNumber();
            Check.due(at + "put(" + packed + ")", x.put(packed), model.put(packed));
        } else if (kind < 13) {
            String some = WAYS_TO_BEGIN[below(5)] + row(below(6), below(3) == 0);
            if (!some.isEmpty()) {
                Check.due(at + "put of " + some, x.put(Check.pack(cut(some))), model.put(Check.pack(cut(some))));
            }
        } else if (kind < 16) {
            write(program());
            Check.due(at + "fault()", x.fault(), model.fault());
        } else if (kind < 25) {
            write(below(4) == 0 ? row(1 + below(9), false) : soundRow(1 + below(8)));
            int what = around(0, 6);
            Check.due(at + "pattern(" + what + ")", x.pattern(what), model.pattern(what));
        } else {
            if (below(3) > 0) {
                write(soundRow(1 + below(8)));
            }
            int place = around(0, 7);
            Check.due(at + "back(" + place + ")", x.back(place), model.back(place));
        }
    }

    private static String cut(String text) {
        return text.length() > 8 ? text.substring(0, 8) : text;
    }

    private void write(String text) {
        Check.due("wipe()", x.wipe(), model.wipe());
        for (int from = 0; from < text.length(); from += 8) {
            long packed = Check.pack(text.substring(from, Math.min(from + 8, text.length())));
            Check.due("put(" + packed + ")", x.put(packed), model.put(packed));
        }
    }

    private String row(int length, boolean passes) {
        StringBuilder row = new StringBuilder();
        for (int place = 0; place < length; place++) {
            int height = below(8);
            row.append(height);
            if (passes && below(3) == 0 && (height > 0 || below(10) == 0)) {
                row.append('p');
            }
        }
        return row.toString();
    }

    private String program() {
        String text = below(2) + ":";
        int kind = below(4);
        if (kind == 0) {
            text += soundRow(1 + below(8));
        } else {
            text += row(1 + below(8 + below(2)), kind == 1);
        }
        if (below(12) == 0) {
            int place = below(text.length());
            text = text.substring(0, place) + (char) (33 + below(94)) + text.substring(place + below(2));
        }
        return text;
    }

    /** Each place lands where no other one does: the landings are put into a random order. */
    private String soundRow(int length) {
        int[] landings = new int[length];
        for (int place = 0; place < length; place++) {
            int other = below(place + 1);
            landings[place] = landings[other];
            landings[other] = place;
        }
        StringBuilder row = new StringBuilder();
        for (int place = 0; place < length; place++) {
            int height = Math.floorMod(landings[place] - place, length);
            while (height + length <= 7 && below(2) == 0) {
                height += length;
            }
            row.append(height);
        }
        return row.toString();
    }

    private long oddNumber() {
        long packed = 0;
        int size = below(9);
        for (int index = 0; index < size; index++) {
            packed = packed << 8 | (below(8) == 0 ? below(256) : '0' + below(8));
        }
        return packed;
    }

    /** From every state that a juggler can be given to every other one. */
    private static void everyWay() {
        for (int from = 0; from < 256; from += 5) {
            JugglerStates x = new JugglerStates();
            Model model = new Model();
            x.start(8, 0);
            model.start(8, 0);
            for (int beat = 0; beat < 8; beat++) {
                if ((from >> beat & 1) == 0) {
                    x.drop(0, beat);
                    model.drop(0, beat);
                }
            }
            for (int to = 0; to < 256; to += 3) {
                for (int what = 0; what < 3; what++) {
                    String call = "from " + from + ": way(0, " + to + ", " + what + ")";
                    Check.due(call, x.way(0, to, what), model.way(0, to, what));
                }
            }
        }
    }
}
