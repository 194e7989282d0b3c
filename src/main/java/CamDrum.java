import java.util.Arrays;

/** A drum with cams that opens and closes the valves of air cylinders step by step. */
public final class CamDrum {
    public static final int NONE = -1;

    private static final int CYLINDERS = 5;
    private static final int FEWEST_STEPS = 2;
    private static final int MOST_STEPS = 16;
    private static final int FIRST_STEPS = 8;
    private static final int ALL_THE_WAY = 100;
    private static final int MOST_DWELL = 20;
    private static final int MOST_LEAST = 5000;
    private static final int MOST_SIZE = 9;
    private static final int MOST_SPEED = 50;
    private static final int MOST_LEAK = 20;
    private static final int FIRST_AIR = 1000;
    private static final int LEAST_CAPACITY = 100;
    private static final int MOST_CAPACITY = 9999;
    private static final int MOST_COMPRESSOR = 500;
    private static final int COMPRESSOR_STRIDE = 10;
    private static final int MOST_GUARDS = 4;
    private static final int MOST_BOUND = 99;
    private static final int MOST_SAVED = 4;
    private static final int MOST_TEXT = 100;
    private static final int MOST_BYTE = 127;

    private static final int MOST_RUN = 500;
    private static final int MOST_TICKS = 100000;
    private static final int TICKS_TO_OUT = 500;
    private static final int TICKS_TO_CYCLE = 1000;
    private static final int TICKS_TO_REPEAT = 2000;
    private static final int TICKS_WITHOUT_SKIP = 300;

    private static final int NUMBERS = 16;
    private static final int CYLINDER_NUMBERS = 8;
    private static final int GUARD_NUMBERS = 4;
    private static final int FIRST_HASH = 3467;
    private static final int SYNTAX_ERROR = -10;

    private static final int STAYS = 0;
    private static final int SKIPS = 1;
    private static final int GOES_ON = 2;
    private static final int ENDS_CYCLE = 3;

    private final Machine now = new Machine();
    private final History history = new History();
    private final TrackText text = new TrackText();

    // Questions are tried out on machines that are made once: a run has little room for new ones.
    private final Machine trial = new Machine();
    private final Machine earlier = new Machine();

    public CamDrum() {
    }

    // ---- drum

    public int setCam(int track, int step, boolean cam) throws IndexOutOfBoundsException {
        requireCylinder(track);
        requireStep(step);
        history.save(now);
        now.putCam(track, step, cam);
        return now.camsOf(track);
    }

    public int setPawl(int dwell, int least) throws IllegalArgumentException {
        if (!within(dwell, 1, MOST_DWELL) || !within(least, 0, MOST_LEAST)) {
            throw new IllegalArgumentException("dwell or least is out of range");
        }
        history.save(now);
        int previous = now.dwell;
        now.dwell = dwell;
        now.least = least;
        return previous;
    }

    public int setCylinder(int cylinder, int size, int speed, int leak)
            throws IndexOutOfBoundsException, IllegalArgumentException {
        requireCylinder(cylinder);
        if (!within(size, 1, MOST_SIZE) || !within(speed, 1, MOST_SPEED) || !within(leak, 0, MOST_LEAK)) {
            throw new IllegalArgumentException("size, speed or leak is out of range");
        }
        history.save(now);
        now.cylinders.size[cylinder] = size;
        now.cylinders.speed[cylinder] = speed;
        now.cylinders.leak[cylinder] = leak;
        return now.cylinders.out[cylinder];
    }

    public int setAir(int capacity, int compressor) throws IllegalArgumentException {
        if (!within(capacity, LEAST_CAPACITY, MOST_CAPACITY) || !within(compressor, 0, MOST_COMPRESSOR)) {
            throw new IllegalArgumentException("capacity or compressor is out of range");
        }
        history.save(now);
        now.air.capacity = capacity;
        now.air.compressor = compressor;
        now.air.letOffSurplus();
        return now.air.tank;
    }

    public int addGuard(int guarded, int other, int bound)
            throws IndexOutOfBoundsException, IllegalArgumentException, IllegalStateException {
        requireCylinder(guarded);
        requireCylinder(other);
        if (guarded == other || !within(bound, 1, MOST_BOUND)) {
            throw new IllegalArgumentException("both cylinders are the same, or bound is out of range");
        }
        if (now.guards.count >= MOST_GUARDS) {
            throw new IllegalStateException("there are 4 guards");
        }
        history.save(now);
        return now.guards.putLast(guarded, other, bound);
    }

    public int removeGuard(int guard) throws IndexOutOfBoundsException {
        requireGuard(guard);
        history.save(now);
        now.guards.takeOut(guard);
        return now.guards.count;
    }

    public int turn(int step) throws IndexOutOfBoundsException {
        requireStep(step);
        history.save(now);
        int previous = now.step;
        now.standAt(step);
        return previous;
    }

    public int run(int ticks) throws IllegalArgumentException, IllegalStateException {
        if (!within(ticks, 1, MOST_RUN)) {
            throw new IllegalArgumentException("ticks is out of range");
        }
        if (now.ticks + ticks > MOST_TICKS) {
            throw new IllegalStateException("there would be more than 100000 ticks");
        }
        history.save(now);
        int cyclesBefore = now.cycles;
        for (int t = 0; t < ticks; t++) {
            now.tick();
        }
        return now.cycles - cyclesBefore;
    }

    public boolean cam(int track, int step) throws IndexOutOfBoundsException {
        requireCylinder(track);
        requireStep(step);
        return now.hasCam(track, step);
    }

    public int cylinder(int cylinder, int what) throws IndexOutOfBoundsException, IllegalArgumentException {
        requireCylinder(cylinder);
        requireWhat(what, CYLINDER_NUMBERS);
        return now.cylinderNumber(cylinder, what);
    }

    public int guard(int guard, int what) throws IndexOutOfBoundsException, IllegalArgumentException {
        requireGuard(guard);
        requireWhat(what, GUARD_NUMBERS);
        return now.guardNumber(guard, what);
    }

    public int value(int what) throws IllegalArgumentException {
        requireWhat(what, NUMBERS);
        return now.number(what);
    }

    public int chart(int cylinder, int step) throws IndexOutOfBoundsException {
        requireCylinder(cylinder);
        requireStep(step);
        return now.chart.outAt(cylinder, step);
    }

    public int skips(int step) throws IndexOutOfBoundsException {
        requireStep(step);
        return now.chart.skipsAt(step);
    }

    // ---- what if

    public int ticksToOut(int cylinder) throws IndexOutOfBoundsException {
        requireCylinder(cylinder);
        trial.copyFrom(now);
        for (int t = 0; t <= TICKS_TO_OUT; t++) {
            if (trial.cylinders.out[cylinder] == ALL_THE_WAY) {
                return t;
            }
            trial.tick();
        }
        return NONE;
    }

    public int ticksToCycle() {
        trial.copyFrom(now);
        return trial.tickUntilCycleEnds(TICKS_TO_CYCLE);
    }

    public int leastCompressor(int ticks) throws IllegalArgumentException {
        if (!within(ticks, 1, TICKS_WITHOUT_SKIP)) {
            throw new IllegalArgumentException("ticks is out of range");
        }
        for (int compressor = 0; compressor <= MOST_COMPRESSOR; compressor += COMPRESSOR_STRIDE) {
            if (goesWithoutSkip(compressor, ticks)) {
                return compressor;
            }
        }
        return NONE;
    }

    public int shortestDwell() {
        for (int dwell = 1; dwell <= MOST_DWELL; dwell++) {
            if (dwellSuffices(dwell)) {
                return dwell;
            }
        }
        return NONE;
    }

    public boolean repeats() {
        trial.copyFrom(now);
        int ticksToNext = trial.tickUntilCycleEnds(TICKS_TO_REPEAT);
        if (ticksToNext == NONE) {
            return false;
        }
        earlier.copyFrom(trial);
        if (trial.tickUntilCycleEnds(TICKS_TO_REPEAT - ticksToNext) == NONE) {
            return false;
        }
        return trial.standsAs(earlier);
    }

    public double useful() {
        return now.air.made > 0 ? (double) now.air.used / (double) now.air.made : 0.0;
    }

    // ---- text

    public int append(int value) throws IllegalArgumentException, IllegalStateException {
        if (!within(value, 0, MOST_BYTE)) {
            throw new IllegalArgumentException("value is out of range");
        }
        if (text.length >= MOST_TEXT) {
            throw new IllegalStateException("the text has 100 bytes");
        }
        text.putLast(value);
        return text.length;
    }

    public int clearText() {
        int previous = text.length;
        text.length = 0;
        return previous;
    }

    public int parse() {
        text.read(now.steps);
        if (text.fault != NONE) {
            return SYNTAX_ERROR - text.fault;
        }
        history.save(now);
        now.takeTracks(text);
        int cams = 0;
        for (int track = 0; track < CYLINDERS; track++) {
            cams += now.camsOf(track);
        }
        return cams;
    }

    // ---- state

    public int undo() throws IllegalStateException {
        if (history.count == 0) {
            throw new IllegalStateException("there is no saved state");
        }
        history.restore(now);
        return history.count;
    }

    public long digest() {
        long hash = hashWith(FIRST_HASH, text.length);
        for (int what = 0; what < NUMBERS; what++) {
            hash = hashWith(hash, now.number(what));
        }
        hash = hashWithCylinders(hash);
        hash = hashWithGuards(hash);
        hash = hashWithSteps(hash);
        hash = hashWith(hash, ticksToCycle());
        return hashWith(hash, history.count);
    }

    // ---- what stands behind the face

    private static boolean within(int number, int least, int most) {
        return number >= least && number <= most;
    }

    private static void requireCylinder(int cylinder) {
        if (!within(cylinder, 0, CYLINDERS - 1)) {
            throw new IndexOutOfBoundsException("there is no such cylinder or track");
        }
    }

    private void requireStep(int step) {
        if (!within(step, 0, now.steps - 1)) {
            throw new IndexOutOfBoundsException("there is no such step");
        }
    }

    private void requireGuard(int guard) {
        if (!within(guard, 0, Math.min(now.guards.count, MOST_GUARDS) - 1)) {
            throw new IndexOutOfBoundsException("there is no such guard");
        }
    }

    private static void requireWhat(int what, int numbers) {
        if (!within(what, 0, numbers - 1)) {
            throw new IllegalArgumentException("what is out of range");
        }
    }

    private boolean goesWithoutSkip(int compressor, int ticks) {
        trial.copyFrom(now);
        trial.air.compressor = compressor;
        for (int t = 0; t < ticks; t++) {
            if (trial.tick() == SKIPS) {
                return false;
            }
        }
        return true;
    }

    private boolean dwellSuffices(int dwell) {
        trial.copyFrom(now);
        trial.standAt(0);
        trial.dwell = dwell;
        Arrays.fill(trial.cylinders.out, 0);
        for (int t = 0; t < TICKS_TO_CYCLE; t++) {
            // Asked ahead of the tick, as the tick moves the cylinders behind the going on.
            boolean due = trial.allDueAreOut();
            int move = trial.tick();
            if (move >= GOES_ON && !due) {
                return false;
            }
            if (move == ENDS_CYCLE) {
                return true;
            }
        }
        return false;
    }

    private static long hashWith(long hash, int number) {
        return 31 * hash + number;
    }

    private long hashWithCylinders(long hash) {
        for (int c = 0; c < CYLINDERS; c++) {
            for (int what = 0; what < CYLINDER_NUMBERS; what++) {
                hash = hashWith(hash, now.cylinderNumber(c, what));
            }
        }
        return hash;
    }

    private long hashWithGuards(long hash) {
        for (int g = 0; g < now.guards.count && g < MOST_GUARDS; g++) {
            for (int what = 0; what < GUARD_NUMBERS; what++) {
                hash = hashWith(hash, now.guardNumber(g, what));
            }
        }
        return hash;
    }

    private long hashWithSteps(long hash) {
        for (int step = 0; step < now.steps; step++) {
            hash = hashWith(hash, now.chart.skipsAt(step));
            for (int c = 0; c < CYLINDERS; c++) {
                hash = hashWith(hash, now.hasCam(c, step) ? 1 : 0);
                hash = hashWith(hash, now.chart.outAt(c, step));
            }
        }
        return hash;
    }

    private static void copyRow(int[] from, int[] to) {
        System.arraycopy(from, 0, to, 0, Math.min(from.length, to.length));
    }

    /** The tank with its compressor, and what has become of all air. */
    private static final class Air {
        int tank = FIRST_AIR;
        int capacity = 2000;
        int compressor = 50;
        int made = FIRST_AIR;
        int letOff;
        int used;
        int leaked;

        void copyFrom(Air other) {
            tank = other.tank;
            capacity = other.capacity;
            compressor = other.compressor;
            made = other.made;
            letOff = other.letOff;
            used = other.used;
            leaked = other.leaked;
        }

        void compress() {
            tank += compressor;
            made += compressor;
            letOffSurplus();
        }

        void letOffSurplus() {
            int surplus = Math.max(tank - capacity, 0);
            tank -= surplus;
            letOff += surplus;
        }

        int enoughToMove(int size) {
            return size > 0 ? tank / size : 0;
        }

        void use(int amount) {
            tank -= amount;
            used += amount;
        }

        int leakOut(int most) {
            int amount = Math.min(most, tank);
            tank -= amount;
            leaked += amount;
            return amount;
        }
    }

    /** The five cylinders, a row for each of their numbers. */
    private static final class Cylinders {
        final int[] out = new int[CYLINDERS];
        final int[] size = new int[CYLINDERS];
        final int[] speed = new int[CYLINDERS];
        final int[] leak = new int[CYLINDERS];
        final int[] used = new int[CYLINDERS];
        final int[] leaked = new int[CYLINDERS];

        Cylinders() {
            Arrays.fill(size, 2);
            Arrays.fill(speed, 20);
        }

        void copyFrom(Cylinders other) {
            copyRow(other.out, out);
            copyRow(other.size, size);
            copyRow(other.speed, speed);
            copyRow(other.leak, leak);
            copyRow(other.used, used);
            copyRow(other.leaked, leaked);
        }
    }

    /** The guards in the order of their numbers; only the first count places are in use. */
    private static final class Guards {
        final int[] guarded = new int[MOST_GUARDS];
        final int[] other = new int[MOST_GUARDS];
        final int[] bound = new int[MOST_GUARDS];
        int count;

        void copyFrom(Guards from) {
            copyRow(from.guarded, guarded);
            copyRow(from.other, other);
            copyRow(from.bound, bound);
            count = from.count;
        }

        int putLast(int guardedOne, int otherOne, int itsBound) {
            if (!within(count, 0, MOST_GUARDS - 1)) {
                return NONE;
            }
            guarded[count] = guardedOne;
            other[count] = otherOne;
            bound[count] = itsBound;
            count++;
            return count - 1;
        }

        void takeOut(int guard) {
            for (int g = Math.max(guard, 0); g + 1 < count && g + 1 < MOST_GUARDS; g++) {
                guarded[g] = guarded[g + 1];
                other[g] = other[g + 1];
                bound[g] = bound[g + 1];
            }
            count--;
        }
    }

    /** What was seen at each step: how far the cylinders were out, and the skips. */
    private static final class Chart {
        final int[] out = new int[CYLINDERS * MOST_STEPS];
        final int[] skipped = new int[MOST_STEPS];

        Chart() {
            Arrays.fill(out, NONE);
        }

        void copyFrom(Chart other) {
            copyRow(other.out, out);
            copyRow(other.skipped, skipped);
        }

        void forget() {
            Arrays.fill(out, NONE);
            Arrays.fill(skipped, 0);
        }

        int outAt(int cylinder, int step) {
            int place = cylinder * MOST_STEPS + step;
            return within(place, 0, out.length - 1) ? out[place] : NONE;
        }

        void note(int cylinder, int step, int howFar) {
            int place = cylinder * MOST_STEPS + step;
            if (within(place, 0, out.length - 1)) {
                out[place] = howFar;
            }
        }

        int skipsAt(int step) {
            return within(step, 0, skipped.length - 1) ? skipped[step] : 0;
        }

        void countSkip(int step) {
            if (within(step, 0, skipped.length - 1)) {
                skipped[step]++;
            }
        }
    }

    /** All that undo() brings back, and how a tick changes it. */
    private static final class Machine {
        int steps = FIRST_STEPS;
        int step;
        int stand;
        int dwell = 4;
        int least = 100;
        int ticks;
        int cycles;
        int skipped;
        // A track is a set of steps: bit 0 for step 0, and so on.
        final int[] tracks = new int[CYLINDERS];
        final Air air = new Air();
        final Cylinders cylinders = new Cylinders();
        final Guards guards = new Guards();
        final Chart chart = new Chart();

        void copyFrom(Machine other) {
            steps = other.steps;
            step = other.step;
            stand = other.stand;
            dwell = other.dwell;
            least = other.least;
            ticks = other.ticks;
            cycles = other.cycles;
            skipped = other.skipped;
            copyRow(other.tracks, tracks);
            air.copyFrom(other.air);
            cylinders.copyFrom(other.cylinders);
            guards.copyFrom(other.guards);
            chart.copyFrom(other.chart);
        }

        boolean hasCam(int track, int atStep) {
            return ((tracks[track] >> atStep) & 1) == 1;
        }

        void putCam(int track, int atStep, boolean isThere) {
            int bit = 1 << atStep;
            tracks[track] = isThere ? tracks[track] | bit : tracks[track] & ~bit;
        }

        int camsOf(int track) {
            return Integer.bitCount(tracks[track]);
        }

        void standAt(int newStep) {
            step = newStep;
            stand = 0;
        }

        void takeTracks(TrackText told) {
            steps = told.steps;
            copyRow(told.tracks, tracks);
            standAt(0);
            chart.forget();
        }

        int tick() {
            ticks++;
            air.compress();
            int move = moveDrum();
            for (int c = 0; c < CYLINDERS; c++) {
                if (hasCam(c, step)) {
                    moveOut(c);
                } else {
                    moveIn(c);
                }
            }
            for (int c = 0; c < CYLINDERS; c++) {
                leakAt(c);
            }
            for (int c = 0; c < CYLINDERS; c++) {
                chart.note(c, step, cylinders.out[c]);
            }
            return move;
        }

        private int moveDrum() {
            stand++;
            if (stand < dwell) {
                return STAYS;
            }
            if (air.tank < least) {
                stand = 0;
                skipped++;
                chart.countSkip(step);
                return SKIPS;
            }
            standAt(step + 1 < steps ? step + 1 : 0);
            if (step > 0) {
                return GOES_ON;
            }
            cycles++;
            return ENDS_CYCLE;
        }

        private void moveOut(int c) {
            int far = Math.min(cylinders.speed[c], roomByGuards(c));
            far = Math.min(far, air.enoughToMove(cylinders.size[c]));
            int amount = cylinders.size[c] * far;
            air.use(amount);
            cylinders.used[c] += amount;
            cylinders.out[c] += far;
        }

        private void moveIn(int c) {
            cylinders.out[c] = Math.max(cylinders.out[c] - cylinders.speed[c], 0);
        }

        private void leakAt(int c) {
            if (hasCam(c, step) && cylinders.out[c] > 0) {
                cylinders.leaked[c] += air.leakOut(cylinders.leak[c]);
            }
        }

        int roomByGuards(int c) {
            int room = ALL_THE_WAY - cylinders.out[c];
            for (int g = 0; g < guards.count && g < MOST_GUARDS; g++) {
                if (guards.guarded[g] == c && holds(g)) {
                    room = Math.min(room, guards.bound[g] - cylinders.out[c]);
                }
            }
            return Math.max(room, 0);
        }

        private boolean holds(int g) {
            int other = guards.other[g];
            return other >= 0 && other < CYLINDERS && cylinders.out[other] > guards.bound[g];
        }

        int tickUntilCycleEnds(int mostTicks) {
            for (int t = 1; t <= mostTicks; t++) {
                if (tick() == ENDS_CYCLE) {
                    return t;
                }
            }
            return NONE;
        }

        boolean allDueAreOut() {
            for (int c = 0; c < CYLINDERS; c++) {
                if (hasCam(c, step) && cylinders.out[c] < ALL_THE_WAY) {
                    return false;
                }
            }
            return true;
        }

        boolean standsAs(Machine other) {
            for (int c = 0; c < CYLINDERS; c++) {
                if (cylinders.out[c] != other.cylinders.out[c]) {
                    return false;
                }
            }
            return step == other.step && stand == other.stand && air.tank == other.air.tank;
        }

        int number(int what) {
            switch (what) {
                case 0: return steps;
                case 1: return step;
                case 2: return stand;
                case 3: return dwell;
                case 4: return least;
                case 5: return air.tank;
                case 6: return air.capacity;
                case 7: return air.compressor;
                case 8: return guards.count;
                case 9: return ticks;
                case 10: return cycles;
                case 11: return skipped;
                case 12: return air.made;
                case 13: return air.letOff;
                case 14: return air.used;
                default: return air.leaked;
            }
        }

        int cylinderNumber(int c, int what) {
            switch (what) {
                case 0: return cylinders.out[c];
                case 1: return cylinders.size[c];
                case 2: return cylinders.speed[c];
                case 3: return cylinders.leak[c];
                case 4: return camsOf(c);
                case 5: return roomByGuards(c);
                case 6: return cylinders.used[c];
                default: return cylinders.leaked[c];
            }
        }

        int guardNumber(int g, int what) {
            switch (what) {
                case 0: return guards.guarded[g];
                case 1: return guards.other[g];
                case 2: return guards.bound[g];
                default: return holds(g) ? 1 : 0;
            }
        }
    }

    /** The saved states, in a ring: the newest overwrites the oldest when all places are taken. */
    private static final class History {
        final Machine[] kept = new Machine[MOST_SAVED];
        int newest;
        int count;

        History() {
            for (int i = 0; i < MOST_SAVED; i++) {
                kept[i] = new Machine();
            }
        }

        void save(Machine machine) {
            newest = newest + 1 < MOST_SAVED ? newest + 1 : 0;
            count = Math.min(count + 1, MOST_SAVED);
            Machine place = newestPlace();
            if (place != null) {
                place.copyFrom(machine);
            }
        }

        void restore(Machine machine) {
            Machine place = newestPlace();
            if (place != null) {
                machine.copyFrom(place);
            }
            newest = newest > 0 ? newest - 1 : MOST_SAVED - 1;
            count--;
        }

        private Machine newestPlace() {
            return within(newest, 0, MOST_SAVED - 1) ? kept[newest] : null;
        }
    }

    /** The text, and what was read from it: tracks and a number of steps, or a fault's position. */
    private static final class TrackText {
        // What stands behind the last byte; it is no byte, so that it can stand nowhere.
        static final int END = -1;

        final int[] bytes = new int[MOST_TEXT];
        int length;

        final int[] tracks = new int[CYLINDERS];
        int steps;
        int fault;
        private int at;

        void read(int stepsSoFar) {
            steps = stepsSoFar;
            fault = NONE;
            at = 0;
            Arrays.fill(tracks, 0);
            if (byteAt(at) == 'n') {
                readSteps();
            }
            for (int items = 0; items < MOST_TEXT && fault == NONE && at < length; items++) {
                readTrack();
            }
        }

        void putLast(int value) {
            if (within(length, 0, MOST_TEXT - 1)) {
                bytes[length] = value;
                length++;
            }
        }

        private int byteAt(int index) {
            return index >= 0 && index < length && index < MOST_TEXT ? bytes[index] : END;
        }

        private boolean isDigitAt(int index) {
            return within(byteAt(index), '0', '9');
        }

        private void readSteps() {
            int first = at + 1;
            if (!isDigitAt(first)) {
                fault = first;
                return;
            }
            int behind = isDigitAt(first + 1) ? first + 2 : first + 1;
            int told = 0;
            for (int i = first; i < behind; i++) {
                told = 10 * told + byteAt(i) - '0';
            }
            if (isDigitAt(behind)) {
                fault = behind;
            } else if (!within(told, FEWEST_STEPS, MOST_STEPS)) {
                fault = first;
            } else {
                steps = told;
                at = behind;
                passSign(';');
            }
        }

        private void readTrack() {
            int track = byteAt(at) - '0';
            if (!within(track, 0, CYLINDERS - 1)) {
                fault = at;
                return;
            }
            at++;
            passSign(':');
            int cams = 0;
            for (int step = 0; step < steps && fault == NONE; step++) {
                if (byteAt(at) == 'x') {
                    cams |= 1 << step;
                    at++;
                } else {
                    passSign('.');
                }
            }
            if (fault == NONE) {
                passSign(';');
            }
            tracks[track] = cams;
        }

        private void passSign(int sign) {
            if (byteAt(at) == sign) {
                at++;
            } else {
                fault = at;
            }
        }
    }
}
