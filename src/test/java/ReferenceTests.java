/** All promises: long runs of calls, each answered by the program and by the reference. */
final class ReferenceTests {
    private static final int RUNS = 500;
    // The document ends at 512 calls: behind these there can be a text of 100 bytes still.
    private static final int CALLS = 400;
    private static final int MOST_CALLS = 512;

    private interface Answer {
        Object of();
    }

    private long numbers;
    private final CamDrum drum = new CamDrum();
    private final Reference reference = new Reference();
    private int calls;

    private ReferenceTests(int seed) {
        numbers = 77L * seed + 5;
    }

    static void run() {
        Check.test("all promises: " + RUNS + " runs of at least " + CALLS + " calls against the reference",
                ReferenceTests::runs);
        Check.test("promise 24: all short texts against the reference", ReferenceTests::shortTexts);
    }

    private static void runs() {
        for (int seed = 0; seed < RUNS; seed++) {
            ReferenceTests tests = new ReferenceTests(seed);
            while (tests.calls < CALLS) {
                tests.call(seed);
            }
            tests.same("digest() at the end of run " + seed, tests.drum::digest, tests.reference::digest);
            Check.same("the run is not too long", tests.calls <= MOST_CALLS, true);
        }
    }

    /** A number from 0 to below the bound; the same ones in each run of the tests. */
    private int below(int bound) {
        numbers = numbers * 6364136223846793005L + 1442695040888963407L;
        return (int) ((numbers >>> 33) % bound);
    }

    private int from(int least, int most) {
        return least + below(most - least + 1);
    }

    /** Mostly in the range, sometimes one beside it, sometimes its end. */
    private int near(int least, int most) {
        switch (below(40)) {
            case 0: return least - 1;
            case 1: return most + 1;
            case 2: return least;
            case 3: return most;
            default: return from(least, most);
        }
    }

    private static Object answered(Answer answer) {
        try {
            return answer.of();
        } catch (RuntimeException e) {
            return e.getClass();
        }
    }

    private void same(String call, Answer program, Answer due) {
        calls++;
        Object got = answered(program);
        Object wanted = answered(due);
        if (!got.equals(wanted)) {
            throw new AssertionError("call " + calls + ": " + call + " answers " + got + ", due is " + wanted);
        }
    }

    private void call(int seed) {
        int kind = below(100);
        if (kind < 45) {
            set();
        } else if (kind < 75) {
            tell();
        } else if (kind < 90) {
            ask();
        } else if (kind < 93) {
            text(seed);
        } else if (kind < 97) {
            same("undo()", drum::undo, reference::undo);
        } else {
            same("digest()", drum::digest, reference::digest);
        }
    }

    private void set() {
        int a = near(0, 4);
        int b;
        int c;
        int d;
        switch (below(12)) {
            case 0: case 1: case 2:
                b = near(0, reference.value(0) - 1);
                boolean cam = below(4) > 0;
                same("setCam", () -> drum.setCam(a, b, cam), () -> reference.setCam(a, b, cam));
                break;
            case 3:
                b = below(2) == 0 ? near(1, 20) : near(1, 4);
                c = below(4) == 0 ? near(0, 5000) : near(0, 400);
                same("setPawl", () -> drum.setPawl(b, c), () -> reference.setPawl(b, c));
                break;
            case 4: case 5:
                b = near(1, 9);
                c = near(1, 50);
                d = near(0, 20);
                same("setCylinder", () -> drum.setCylinder(a, b, c, d), () -> reference.setCylinder(a, b, c, d));
                break;
            case 6:
                b = below(3) == 0 ? near(100, 9999) : near(100, 500);
                c = below(3) == 0 ? near(0, 500) : near(0, 60);
                same("setAir", () -> drum.setAir(b, c), () -> reference.setAir(b, c));
                break;
            case 7:
                b = near(0, 4);
                c = near(1, 99);
                same("addGuard", () -> drum.addGuard(a, b, c), () -> reference.addGuard(a, b, c));
                break;
            case 8:
                b = from(-1, 4);
                same("removeGuard", () -> drum.removeGuard(b), () -> reference.removeGuard(b));
                break;
            case 9:
                b = near(0, reference.value(0) - 1);
                same("turn", () -> drum.turn(b), () -> reference.turn(b));
                break;
            default:
                b = below(5) == 0 ? near(1, 500) : near(1, 12);
                same("run", () -> drum.run(b), () -> reference.run(b));
                break;
        }
    }

    private void tell() {
        int a = near(0, 4);
        int b;
        switch (below(7)) {
            case 0:
                b = near(0, reference.value(0) - 1);
                same("cam", () -> drum.cam(a, b), () -> reference.cam(a, b));
                break;
            case 1: case 2:
                b = near(0, 7);
                same("cylinder", () -> drum.cylinder(a, b), () -> reference.cylinder(a, b));
                break;
            case 3:
                b = near(0, 3);
                same("guard", () -> drum.guard(a, b), () -> reference.guard(a, b));
                break;
            case 4:
                b = near(0, 15);
                same("value", () -> drum.value(b), () -> reference.value(b));
                break;
            case 5:
                b = near(0, reference.value(0) - 1);
                same("chart", () -> drum.chart(a, b), () -> reference.chart(a, b));
                break;
            default:
                b = near(0, reference.value(0) - 1);
                same("skips", () -> drum.skips(b), () -> reference.skips(b));
                break;
        }
    }

    private void ask() {
        int a = near(0, 4);
        int b = near(1, below(2) == 0 ? 20 : 300);
        switch (below(6)) {
            case 0:
                same("ticksToOut", () -> drum.ticksToOut(a), () -> reference.ticksToOut(a));
                break;
            case 1:
                same("ticksToCycle", drum::ticksToCycle, reference::ticksToCycle);
                break;
            case 2:
                same("leastCompressor", () -> drum.leastCompressor(b), () -> reference.leastCompressor(b));
                break;
            case 3:
                same("shortestDwell", drum::shortestDwell, reference::shortestDwell);
                break;
            case 4:
                same("repeats", drum::repeats, reference::repeats);
                break;
            default:
                same("useful", drum::useful, reference::useful);
                break;
        }
    }

    /** A text that is mostly right, byte by byte. */
    private void text(int seed) {
        if (below(8) > 0) {
            same("clearText", drum::clearText, reference::clearText);
        }
        StringBuilder told = new StringBuilder();
        int steps = reference.value(0);
        if (below(2) == 0) {
            // Short tracks, mostly: a run has only so many calls.
            steps = below(6) == 0 ? near(2, 16) : near(2, 5);
            told.append('n').append(steps < 10 && below(3) == 0 ? "0" : "").append(steps).append(';');
        }
        for (int items = below(5); items > 0; items--) {
            told.append(from(0, 4)).append(':');
            for (int step = 0; step < steps; step++) {
                told.append(below(2) == 0 ? 'x' : '.');
            }
            told.append(';');
        }
        if (below(4) == 0 && told.length() > 0) {
            String signs = "n:;x.019 ";
            told.setCharAt(below(told.length()), signs.charAt(below(signs.length())));
        }
        for (int i = 0; i < told.length(); i++) {
            int sign = below(300) == 0 ? near(0, 127) : told.charAt(i);
            same("append", () -> drum.append(sign), () -> reference.append(sign));
        }
        same("parse in run " + seed, drum::parse, reference::parse);
    }

    /** Every text of up to 5 signs out of these, on a drum of 2 steps. */
    private static void shortTexts() {
        String signs = "n0127:x.;";
        int[] digits = new int[5];
        for (int length = 0; length <= 5; length++) {
            int texts = 1;
            for (int i = 0; i < length; i++) {
                texts *= signs.length();
            }
            for (int number = 0; number < texts; number++) {
                int rest = number;
                for (int i = 0; i < length; i++) {
                    digits[i] = signs.charAt(rest % signs.length());
                    rest /= signs.length();
                }
                shortText(digits, length);
            }
        }
    }

    private static void shortText(int[] signs, int length) {
        CamDrum drum = Check.drumOf("n2;");
        Reference reference = new Reference();
        StringBuilder told = new StringBuilder();
        for (int sign : "n2;".toCharArray()) {
            reference.append(sign);
        }
        reference.parse();
        drum.clearText();
        reference.clearText();
        for (int i = 0; i < length; i++) {
            drum.append(signs[i]);
            reference.append(signs[i]);
            told.append((char) signs[i]);
        }
        Check.same("parse() of " + told, drum.parse(), reference.parse());
        Check.same("value(0) behind " + told, drum.value(0), reference.value(0));
    }
}
