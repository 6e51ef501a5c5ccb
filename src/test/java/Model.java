import java.util.ArrayDeque;
import java.util.ArrayList;
import java.util.Deque;
import java.util.HashSet;
import java.util.List;
import java.util.Set;
import java.util.TreeSet;
import java.util.regex.Matcher;
import java.util.regex.Pattern;

/** The document a second time, written as unlike the class as can be: clubs are times, texts are read by expressions. */
final class Model {
    static final int NO_SUCH = -1, BAD_VALUE = -2, BAD_TEXT = -3, TOO_MANY = -4, NOT_POSSIBLE = -5, NONE = -6;
    private static final Pattern PROGRAM = Pattern.compile("[01]:(0|[1-7]p?){1,8}");
    private static final Pattern THROW = Pattern.compile("[0-7]p?");

    /** Never changed once it stands in the history or in a slot. */
    private static final class World {
        final List<TreeSet<Integer>> landings = List.of(new TreeSet<>(), new TreeSet<>());
        final String[][] programs = {{"0"}, {"0"}};
        final int[] places = new int[2];
        final int[] slips = new int[2];
        final int[] clashes = new int[2];
        int clock;
        int floor;
        int thrown;
        int came;

        World copy() {
            World copy = new World();
            for (int j = 0; j < 2; j++) {
                copy.landings.get(j).addAll(landings.get(j));
                copy.programs[j] = programs[j];
                copy.places[j] = places[j];
                copy.slips[j] = slips[j];
                copy.clashes[j] = clashes[j];
            }
            copy.clock = clock;
            copy.floor = floor;
            copy.thrown = thrown;
            copy.came = came;
            return copy;
        }

        int state(int j) {
            int state = 0;
            for (int time : landings.get(j)) {
                state += 1 << (time - clock);
            }
            return state;
        }

        int clubs() {
            return landings.get(0).size() + landings.get(1).size() + floor;
        }

        int beat() {
            int floorBefore = floor;
            for (int j = 0; j < 2; j++) {
                if (landings.get(j).remove(clock)) {
                    String made = programs[j][places[j]];
                    thrown++;
                    int height = made.charAt(0) - '0';
                    boolean pass = made.endsWith("p");
                    if (height == 0) {
                        slips[j]++;
                        floor++;
                    } else if (!landings.get(pass ? 1 - j : j).add(clock + height)) {
                        clashes[j]++;
                        floor++;
                    } else if (pass) {
                        came++;
                    }
                }
            }
            for (int j = 0; j < 2; j++) {
                places[j] = (places[j] + 1) % programs[j].length;
            }
            clock++;
            return floor - floorBefore;
        }
    }

    private World world = new World();
    private String pad = "";
    private final Deque<World> history = new ArrayDeque<>();
    private final World[] slots = new World[2];

    private void change() {
        history.addLast(world.copy());
        if (history.size() > 6) {
            history.removeFirst();
        }
    }

    private static boolean noJuggler(int j) {
        return j != 0 && j != 1;
    }

    int start(int zero, int one) {
        if (zero < 0 || zero > 8 || one < 0 || one > 8) {
            return BAD_VALUE;
        }
        change();
        World fresh = new World();
        for (int j = 0; j < 2; j++) {
            fresh.programs[j] = world.programs[j];
            for (int beat = 0; beat < (j == 0 ? zero : one); beat++) {
                fresh.landings.get(j).add(beat);
            }
        }
        int clubs = world.clubs();
        world = fresh;
        return clubs;
    }

    int read() {
        if (!PROGRAM.matcher(pad).matches()) {
            return BAD_TEXT;
        }
        change();
        int j = pad.charAt(0) - '0';
        List<String> made = new ArrayList<>();
        Matcher matcher = THROW.matcher(pad.substring(2));
        while (matcher.find()) {
            made.add(matcher.group());
        }
        world.programs[j] = made.toArray(new String[0]);
        world.places[j] = 0;
        pad = "";
        return j;
    }

    int pass(int beats) {
        if (beats < 1 || beats > 200) {
            return BAD_VALUE;
        }
        if (world.clock + beats > 100000) {
            return TOO_MANY;
        }
        change();
        int dropped = 0;
        for (int beat = 0; beat < beats; beat++) {
            dropped += world.beat();
        }
        return dropped;
    }

    int drop(int j, int beat) {
        if (noJuggler(j)) {
            return NO_SUCH;
        }
        if (beat < 0 || beat > 7) {
            return BAD_VALUE;
        }
        if (!world.landings.get(j).contains(world.clock + beat)) {
            return NOT_POSSIBLE;
        }
        change();
        world.landings.get(j).remove(world.clock + beat);
        return ++world.floor;
    }

    int pick(int j, int beat) {
        if (noJuggler(j)) {
            return NO_SUCH;
        }
        if (beat < 0 || beat > 7) {
            return BAD_VALUE;
        }
        if (world.floor == 0 || world.landings.get(j).contains(world.clock + beat)) {
            return NOT_POSSIBLE;
        }
        change();
        world.landings.get(j).add(world.clock + beat);
        return --world.floor;
    }

    int of(int j, int what) {
        if (noJuggler(j)) {
            return NO_SUCH;
        }
        if (what < 0 || what > 5) {
            return BAD_VALUE;
        }
        return new int[] {
            world.state(j), world.landings.get(j).size(), world.programs[j].length, world.places[j],
            world.slips[j], world.clashes[j]
        }[what];
    }

    int thrown(int j, int place, int what) {
        if (noJuggler(j) || place < 0 || place >= world.programs[j].length) {
            return NO_SUCH;
        }
        if (what != 0 && what != 1) {
            return BAD_VALUE;
        }
        String made = world.programs[j][place];
        return what == 0 ? made.charAt(0) - '0' : made.length() - 1;
    }

    int count(int what) {
        if (what < 0 || what > 6) {
            return BAD_VALUE;
        }
        return new int[] {
            world.clock, world.floor, world.clubs(), world.thrown, world.came, pad.length(), history.size()
        }[what];
    }

    int firstDrop() {
        World later = world.copy();
        for (int beat = 0; beat < 1000; beat++) {
            if (later.beat() != 0) {
                return beat;
            }
        }
        return NONE;
    }

    private static List<Integer> standing(World world) {
        return List.of(world.state(0), world.state(1), world.places[0], world.places[1]);
    }

    int comesRound() {
        World later = world.copy();
        for (int beats = 1; beats <= 1000; beats++) {
            later.beat();
            if (standing(later).equals(standing(world))) {
                return beats;
            }
        }
        return NONE;
    }

    int stateBehind(int j, int beats) {
        if (noJuggler(j)) {
            return NO_SUCH;
        }
        if (beats < 1 || beats > 200) {
            return BAD_VALUE;
        }
        World later = world.copy();
        for (int beat = 0; beat < beats; beat++) {
            later.beat();
        }
        return later.state(j);
    }

    private int height(int place) {
        return pad.charAt(place) - '0';
    }

    private boolean sound() {
        for (int a = 0; a < pad.length(); a++) {
            for (int b = 0; b < a; b++) {
                if ((a + height(a)) % pad.length() == (b + height(b)) % pad.length()) {
                    return false;
                }
            }
        }
        return true;
    }

    private Set<Integer> orbit(int place) {
        Set<Integer> orbit = new TreeSet<>();
        int at = place;
        while (orbit.add(at)) {
            at = (at + height(at)) % pad.length();
        }
        return orbit;
    }

    int pattern(int what) {
        if (!pad.matches("[0-7]{1,8}")) {
            return BAD_TEXT;
        }
        if (what < 0 || what > 6) {
            return BAD_VALUE;
        }
        if (what == 0) {
            return sound() ? 1 : 0;
        }
        if (!sound()) {
            return NOT_POSSIBLE;
        }
        int clubs = pad.chars().map(c -> c - '0').sum() / pad.length();
        Set<Integer> coming = new TreeSet<>();
        for (int cycle = -9; cycle < 0; cycle++) {
            for (int place = 0; place < pad.length(); place++) {
                int lands = cycle * pad.length() + place + height(place);
                if (lands >= 0) {
                    coming.add(lands);
                }
            }
        }
        int start = coming.stream().mapToInt(beat -> 1 << beat).sum();
        Set<Set<Integer>> orbits = new HashSet<>();
        for (int place = 0; place < pad.length(); place++) {
            if (height(place) > 0) {
                orbits.add(orbit(place));
            }
        }
        int again = 1;
        while (pad.length() % again != 0 || !pad.substring(0, again).repeat(pad.length() / again).equals(pad)) {
            again++;
        }
        switch (what) {
            case 1: return clubs;
            case 2: return start;
            case 3: return orbits.size();
            case 4: return height(0) == 0 ? 0 : orbit(0).stream().mapToInt(place -> 1 << place).sum();
            case 5: return again;
            default: return start + 1 == 1 << clubs ? 1 : 0;
        }
    }

    int back(int place) {
        if (!pad.matches("[0-7]{1,8}")) {
            return BAD_TEXT;
        }
        if (place < 0 || place >= pad.length()) {
            return NO_SUCH;
        }
        if (!sound()) {
            return NOT_POSSIBLE;
        }
        int[] turned = new int[pad.length()];
        for (int from = 0; from < pad.length(); from++) {
            turned[pad.length() - 1 - (from + height(from)) % pad.length()] = height(from);
        }
        return turned[place];
    }

    /** -1: the throw would drop a club, or there is none to throw. */
    private static int after(int state, int height) {
        boolean club = state % 2 == 1;
        if (club != height > 0 || club && (state >> height) % 2 == 1) {
            return -1;
        }
        return club ? (state + (1 << height)) / 2 : state / 2;
    }

    int way(int j, int state, int what) {
        if (noJuggler(j)) {
            return NO_SUCH;
        }
        if (state < 0 || state > 255 || what < 0 || what > 2) {
            return BAD_VALUE;
        }
        int[] left = new int[256];
        for (int each = 0; each < 256; each++) {
            left[each] = each == state ? 0 : 9999;
        }
        boolean shorter = true;
        while (shorter) {
            shorter = false;
            for (int each = 0; each < 256; each++) {
                for (int height = 0; height < 8; height++) {
                    int next = after(each, height);
                    if (next >= 0 && left[next] + 1 < left[each]) {
                        left[each] = left[next] + 1;
                        shorter = true;
                    }
                }
            }
        }
        int at = world.state(j);
        if (left[at] >= 9999) {
            return NOT_POSSIBLE;
        }
        if (what == 0) {
            return left[at];
        }
        List<Integer> made = new ArrayList<>();
        while (left[at] > 0) {
            int height = 0;
            while (after(at, height) < 0 || left[after(at, height)] != left[at] - 1) {
                height++;
            }
            made.add(height);
            at = after(at, height);
        }
        if (made.isEmpty()) {
            return NONE;
        }
        return what == 1 ? made.get(0) : made.get(made.size() - 1);
    }

    /** Looks at every row of heights of the length. */
    int howMany(int length, int clubs) {
        if (length < 1 || length > 5 || clubs < 0 || clubs > 7) {
            return BAD_VALUE;
        }
        Model looked = new Model();
        int found = 0;
        int rows = 1 << 3 * length;
        for (int row = 0; row < rows; row++) {
            looked.pad = Integer.toOctalString(rows + row).substring(1);
            if (looked.sound() && looked.pad.chars().map(c -> c - '0').sum() == length * clubs) {
                found++;
            }
        }
        return found;
    }

    int put(long characters) {
        StringBuilder text = new StringBuilder();
        for (int shift = 56; shift >= 0; shift -= 8) {
            int code = (int) (characters >> shift & 255);
            if (code != 0 || text.length() > 0) {
                if (code < 33 || code > 126) {
                    return BAD_VALUE;
                }
                text.append((char) code);
            }
        }
        if (text.length() == 0) {
            return BAD_VALUE;
        }
        if (pad.length() + text.length() > 30) {
            return TOO_MANY;
        }
        pad += text;
        return pad.length();
    }

    int wipe() {
        int length = pad.length();
        pad = "";
        return length;
    }

    int fault() {
        for (int length = 0; length <= pad.length(); length++) {
            Matcher matcher = PROGRAM.matcher(pad.substring(0, length));
            if (!matcher.matches() && !matcher.hitEnd()) {
                return length - 1;
            }
        }
        return PROGRAM.matcher(pad).matches() ? NONE : pad.length();
    }

    int undo() {
        if (history.isEmpty()) {
            return NOT_POSSIBLE;
        }
        world = history.removeLast();
        return history.size();
    }

    int save(int slot) {
        if (slot != 0 && slot != 1) {
            return BAD_VALUE;
        }
        slots[slot] = world.copy();
        return world.clubs();
    }

    int restore(int slot) {
        if (slot != 0 && slot != 1) {
            return BAD_VALUE;
        }
        if (slots[slot] == null) {
            return NOT_POSSIBLE;
        }
        change();
        world = slots[slot].copy();
        return world.clubs();
    }
}
