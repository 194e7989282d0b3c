import java.util.ArrayDeque;
import java.util.ArrayList;
import java.util.Arrays;
import java.util.Deque;
import java.util.List;
import java.util.TreeMap;
import java.util.Map;
import java.util.regex.Matcher;
import java.util.regex.Pattern;

/**
 * The document once more, told in another way than the program: texts for tracks, lists, deep copies,
 * and a syntax that asks of each prefix whether it can still become a text.
 */
final class Reference {
    private static final class Rod {
        int out;
        int size = 2;
        int speed = 20;
        int leak;
        int used;
        int leaked;
        String track = "........";
        Map<Integer, Integer> chart = new TreeMap<>();

        Rod copy() {
            Rod other = new Rod();
            other.out = out;
            other.size = size;
            other.speed = speed;
            other.leak = leak;
            other.used = used;
            other.leaked = leaked;
            other.track = track;
            other.chart = new TreeMap<>(chart);
            return other;
        }
    }

    private static final class State {
        int at;
        int stand;
        int dwell = 4;
        int least = 100;
        int tank = 1000;
        int capacity = 2000;
        int compressor = 50;
        int ticks;
        int cycles;
        int skips;
        int made = 1000;
        int letOff;
        Map<Integer, Integer> skipsAt = new TreeMap<>();
        List<Rod> rods = new ArrayList<>();
        List<int[]> guards = new ArrayList<>();

        int steps() {
            return rods.get(0).track.length();
        }

        int used() {
            return rods.stream().mapToInt(rod -> rod.used).sum();
        }

        int leaked() {
            return rods.stream().mapToInt(rod -> rod.leaked).sum();
        }

        State copy() {
            State other = new State();
            other.at = at;
            other.stand = stand;
            other.dwell = dwell;
            other.least = least;
            other.tank = tank;
            other.capacity = capacity;
            other.compressor = compressor;
            other.ticks = ticks;
            other.cycles = cycles;
            other.skips = skips;
            other.made = made;
            other.letOff = letOff;
            other.skipsAt = new TreeMap<>(skipsAt);
            rods.forEach(rod -> other.rods.add(rod.copy()));
            guards.forEach(guard -> other.guards.add(guard.clone()));
            return other;
        }

        boolean due(Rod rod) {
            return rod.track.charAt(at) == 'x';
        }

        boolean dueAreOut() {
            return rods.stream().filter(this::due).allMatch(rod -> rod.out == 100);
        }

        void letOff() {
            while (tank > capacity) {
                tank--;
                letOff++;
            }
        }

        int mayReach(int index) {
            int reach = 100;
            for (int[] guard : guards) {
                if (guard[0] == index && rods.get(guard[1]).out > guard[2] && guard[2] < reach) {
                    reach = guard[2];
                }
            }
            return Math.max(reach, rods.get(index).out);
        }

        void tick() {
            ticks++;
            tank += compressor;
            made += compressor;
            letOff();
            if (++stand >= dwell) {
                stand = 0;
                if (tank >= least) {
                    at = (at + 1) % steps();
                    cycles += at == 0 ? 1 : 0;
                } else {
                    skips++;
                    skipsAt.merge(at, 1, Integer::sum);
                }
            }
            for (Rod rod : rods) {
                for (int moved = 0; moved < rod.speed; moved++) {
                    if (!due(rod)) {
                        rod.out -= rod.out > 0 ? 1 : 0;
                    } else if (rod.out < mayReach(rods.indexOf(rod)) && tank >= rod.size) {
                        rod.out++;
                        rod.used += rod.size;
                        tank -= rod.size;
                    }
                }
            }
            for (Rod rod : rods) {
                for (int drop = 0; due(rod) && rod.out > 0 && drop < rod.leak && tank > 0; drop++) {
                    tank--;
                    rod.leaked++;
                }
                rod.chart.put(at, rod.out);
            }
        }
    }

    private State state = new State();
    private final Deque<State> saved = new ArrayDeque<>();
    private final StringBuilder text = new StringBuilder();

    Reference() {
        for (int i = 0; i < 5; i++) {
            state.rods.add(new Rod());
        }
    }

    private void save() {
        saved.push(state.copy());
        if (saved.size() > 4) {
            saved.removeLast();
        }
    }

    private static void index(boolean fits) {
        if (!fits) {
            throw new IndexOutOfBoundsException();
        }
    }

    private static void argument(boolean fits) {
        if (!fits) {
            throw new IllegalArgumentException();
        }
    }

    private static void state(boolean fits) {
        if (!fits) {
            throw new IllegalStateException();
        }
    }

    private static boolean in(int number, int least, int most) {
        return least <= number && number <= most;
    }

    private void step(int step) {
        index(in(step, 0, state.steps() - 1));
    }

    private static void rod(int number) {
        index(in(number, 0, 4));
    }

    private static int cams(Rod rod) {
        return rod.track.replace(".", "").length();
    }

    int setCam(int track, int step, boolean cam) {
        rod(track);
        step(step);
        save();
        Rod rod = state.rods.get(track);
        rod.track = rod.track.substring(0, step) + (cam ? "x" : ".") + rod.track.substring(step + 1);
        return cams(rod);
    }

    int setPawl(int dwell, int least) {
        argument(in(dwell, 1, 20) && in(least, 0, 5000));
        save();
        int before = state.dwell;
        state.dwell = dwell;
        state.least = least;
        return before;
    }

    int setCylinder(int cylinder, int size, int speed, int leak) {
        rod(cylinder);
        argument(in(size, 1, 9) && in(speed, 1, 50) && in(leak, 0, 20));
        save();
        Rod rod = state.rods.get(cylinder);
        rod.size = size;
        rod.speed = speed;
        rod.leak = leak;
        return rod.out;
    }

    int setAir(int capacity, int compressor) {
        argument(in(capacity, 100, 9999) && in(compressor, 0, 500));
        save();
        state.capacity = capacity;
        state.compressor = compressor;
        state.letOff();
        return state.tank;
    }

    int addGuard(int guarded, int other, int bound) {
        rod(guarded);
        rod(other);
        argument(guarded != other && in(bound, 1, 99));
        state(state.guards.size() < 4);
        save();
        state.guards.add(new int[] {guarded, other, bound});
        return state.guards.size() - 1;
    }

    int removeGuard(int guard) {
        index(in(guard, 0, state.guards.size() - 1));
        save();
        state.guards.remove(guard);
        return state.guards.size();
    }

    int turn(int step) {
        step(step);
        save();
        int before = state.at;
        state.at = step;
        state.stand = 0;
        return before;
    }

    int run(int ticks) {
        argument(in(ticks, 1, 500));
        state(state.ticks + ticks <= 100000);
        save();
        int before = state.cycles;
        for (int t = 0; t < ticks; t++) {
            state.tick();
        }
        return state.cycles - before;
    }

    boolean cam(int track, int step) {
        rod(track);
        step(step);
        return state.rods.get(track).track.charAt(step) == 'x';
    }

    int cylinder(int cylinder, int what) {
        rod(cylinder);
        argument(in(what, 0, 7));
        Rod rod = state.rods.get(cylinder);
        int room = state.mayReach(cylinder) - rod.out;
        return new int[] {rod.out, rod.size, rod.speed, rod.leak, cams(rod), room, rod.used, rod.leaked}[what];
    }

    int guard(int guard, int what) {
        index(in(guard, 0, state.guards.size() - 1));
        argument(in(what, 0, 3));
        int[] told = state.guards.get(guard);
        return what < 3 ? told[what] : state.rods.get(told[1]).out > told[2] ? 1 : 0;
    }

    int value(int what) {
        argument(in(what, 0, 15));
        return new int[] {state.steps(), state.at, state.stand, state.dwell, state.least, state.tank, state.capacity,
            state.compressor, state.guards.size(), state.ticks, state.cycles, state.skips, state.made, state.letOff,
            state.used(), state.leaked()}[what];
    }

    int chart(int cylinder, int step) {
        rod(cylinder);
        step(step);
        return state.rods.get(cylinder).chart.getOrDefault(step, -1);
    }

    int skips(int step) {
        step(step);
        return state.skipsAt.getOrDefault(step, 0);
    }

    int ticksToOut(int cylinder) {
        rod(cylinder);
        State asked = state.copy();
        int ticks = 0;
        while (asked.rods.get(cylinder).out < 100 && ticks <= 500) {
            asked.tick();
            ticks++;
        }
        return ticks <= 500 ? ticks : -1;
    }

    int ticksToCycle() {
        State asked = state.copy();
        while (asked.cycles == state.cycles && asked.ticks - state.ticks <= 1000) {
            asked.tick();
        }
        int ticks = asked.ticks - state.ticks;
        return ticks <= 1000 ? ticks : -1;
    }

    int leastCompressor(int ticks) {
        argument(in(ticks, 1, 300));
        for (int tens = 0; tens <= 50; tens++) {
            State asked = state.copy();
            asked.compressor = 10 * tens;
            for (int t = 0; t < ticks && asked.skips == state.skips; t++) {
                asked.tick();
            }
            if (asked.skips == state.skips) {
                return asked.compressor;
            }
        }
        return -1;
    }

    int shortestDwell() {
        for (int dwell = 1; dwell <= 20; dwell++) {
            State asked = state.copy();
            asked.at = 0;
            asked.stand = 0;
            asked.dwell = dwell;
            asked.rods.forEach(rod -> rod.out = 0);
            boolean does = true;
            for (int t = 0; t < 1000 && does && asked.cycles == state.cycles; t++) {
                int before = asked.at;
                boolean out = asked.dueAreOut();
                asked.tick();
                does = before == asked.at || out;
            }
            if (does && asked.cycles > state.cycles) {
                return dwell;
            }
        }
        return -1;
    }

    boolean repeats() {
        State asked = state.copy();
        List<String> ends = new ArrayList<>();
        for (int t = 0; t < 2000 && ends.size() < 2; t++) {
            int before = asked.cycles;
            asked.tick();
            if (asked.cycles > before) {
                StringBuilder seen = new StringBuilder();
                asked.rods.forEach(rod -> seen.append(rod.out).append(' '));
                ends.add(seen.append(asked.at).append(' ').append(asked.stand).append(' ').append(asked.tank).toString());
            }
        }
        return ends.size() == 2 && ends.get(0).equals(ends.get(1));
    }

    double useful() {
        return (double) state.used() / (double) state.made;
    }

    int append(int value) {
        argument(in(value, 0, 127));
        state(text.length() < 100);
        text.append((char) value);
        return text.length();
    }

    int clearText() {
        int before = text.length();
        text.setLength(0);
        return before;
    }

    private static boolean canBecome(String prefix, String grammar) {
        Matcher matcher = Pattern.compile(grammar, Pattern.DOTALL).matcher(prefix);
        return matcher.matches() || matcher.hitEnd();
    }

    private static String tracks(int steps) {
        return "([0-4]:[x.]{" + steps + "};)*";
    }

    /** The syntax error position, or -1. */
    private static int fault(String told, int stepsNow) {
        if (told.matches("(?s)n[0-9]{1,2}([^0-9].*)?")) {
            int steps = Integer.parseInt(told.replaceAll("(?s)n([0-9]+).*", "$1"));
            if (steps < 2 || steps > 16) {
                return 1;
            }
        }
        StringBuilder texts = new StringBuilder("(").append(tracks(stepsNow));
        for (int steps = 2; steps <= 16; steps++) {
            texts.append("|n").append(steps < 10 ? "0?" : "").append(steps).append(';').append(tracks(steps));
        }
        String grammar = texts.append(')').toString();
        for (int end = 1; end <= told.length(); end++) {
            String prefix = told.substring(0, end);
            boolean numberGrows = prefix.matches("n[0-9]{0,2}");
            if (!numberGrows && !canBecome(prefix, grammar)) {
                return end - 1;
            }
        }
        return told.matches("(?s)" + grammar) ? -1 : told.length();
    }

    int parse() {
        String told = text.toString();
        int fault = fault(told, state.steps());
        if (fault >= 0) {
            return -10 - fault;
        }
        save();
        int steps = state.steps();
        for (Rod rod : state.rods) {
            rod.chart.clear();
        }
        String[] tracks = new String[5];
        for (String item : told.split(";")) {
            if (item.startsWith("n")) {
                steps = Integer.parseInt(item.substring(1));
            } else if (!item.isEmpty()) {
                tracks[item.charAt(0) - '0'] = item.substring(2);
            }
        }
        char[] bare = new char[steps];
        Arrays.fill(bare, '.');
        int cams = 0;
        for (int i = 0; i < 5; i++) {
            state.rods.get(i).track = tracks[i] == null ? new String(bare) : tracks[i];
            cams += cams(state.rods.get(i));
        }
        state.skipsAt.clear();
        state.at = 0;
        state.stand = 0;
        return cams;
    }

    int undo() {
        state(!saved.isEmpty());
        state = saved.pop();
        return saved.size();
    }

    long digest() {
        List<Integer> values = new ArrayList<>();
        values.add(text.length());
        for (int what = 0; what <= 15; what++) {
            values.add(value(what));
        }
        for (int c = 0; c < 5; c++) {
            for (int what = 0; what <= 7; what++) {
                values.add(cylinder(c, what));
            }
        }
        for (int g = 0; g < state.guards.size(); g++) {
            for (int what = 0; what <= 3; what++) {
                values.add(guard(g, what));
            }
        }
        for (int step = 0; step < state.steps(); step++) {
            values.add(skips(step));
            for (int c = 0; c < 5; c++) {
                values.add(cam(c, step) ? 1 : 0);
                values.add(chart(c, step));
            }
        }
        values.add(ticksToCycle());
        values.add(saved.size());
        long h = 3467;
        for (int v : values) {
            h = 31 * h + v;
        }
        return h;
    }
}
