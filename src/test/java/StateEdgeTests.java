import java.util.ArrayList;
import java.util.List;

/** The edges of promises 25 and 26 and of the terms Undo and Exceptions. */
final class StateEdgeTests {
    private static final int MOST_CALLS = 512;

    private StateEdgeTests() {
    }

    static void run() {
        undo();
        undoRing();
        undoContents();
        exceptions();
        digest();
        mostCalls();
    }

    private static CamDrum saved(int calls) {
        CamDrum drum = new CamDrum();
        for (int dwell = 5; dwell < 5 + calls; dwell++) {
            drum.setPawl(dwell, 0);
        }
        return drum;
    }

    private static void undo() {
        Check.test("promise 25, undo: no saved state yet",
                () -> Twins.refusedOn(CamDrum::new, Twins.STATE, CamDrum::undo));
        Check.test("promise 25, undo: no saved state any more, behind one and behind four", () -> {
            Twins.refusedOn(() -> Twins.busyWithSaved(0), Twins.STATE, CamDrum::undo);
            CamDrum one = saved(1);
            one.undo();
            Check.refusesState(one, one::undo);
        });
        Check.test("promise 25, undo: one saved state", () -> {
            CamDrum drum = saved(1);
            Check.same("undo()", drum.undo(), 0);
            Check.same("the dwell", drum.value(3), 4);
        });
        Check.test("terms, Undo: four saved states, back to the first", () -> {
            CamDrum drum = saved(4);
            for (int left = 3; left >= 0; left--) {
                Check.same("undo()", drum.undo(), left);
                Check.same("the dwell", drum.value(3), 4 + left);
            }
            Check.refusesState(drum, drum::undo);
        });
        Check.test("terms, Undo: with a fifth the oldest is dropped", () -> {
            CamDrum drum = saved(5);
            for (int left = 3; left >= 0; left--) {
                Check.same("undo()", drum.undo(), left);
                Check.same("the dwell", drum.value(3), 5 + left);
            }
            Check.refusesState(drum, drum::undo);
        });
        Check.test("promise 25, undo: it is not undoable itself", () -> {
            CamDrum drum = saved(2);
            drum.undo();
            Check.same("undo()", drum.undo(), 0);
            Check.same("the dwell", drum.value(3), 4);
            Check.refusesState(drum, drum::undo);
        });
    }

    /** Twelve calls, each bit of the row one of them: a call that is saved, or an undo. */
    private static void row(int row) {
        CamDrum drum = new CamDrum();
        List<Integer> due = new ArrayList<>();
        int dwell = 4;
        for (int call = 0; call < 12; call++) {
            if ((row >> call & 1) == 1) {
                due.add(dwell);
                if (due.size() > 4) {
                    due.remove(0);
                }
                dwell = 5 + call;
                drum.setPawl(dwell, 0);
            } else if (due.isEmpty()) {
                Check.same("undo() in row " + row, Check.thrownBy(drum::undo), "IllegalStateException");
            } else {
                dwell = due.remove(due.size() - 1);
                Check.same("undo() in row " + row, drum.undo(), due.size());
            }
            Check.same("the dwell in row " + row, drum.value(3), dwell);
        }
    }

    private static void undoRing() {
        Check.test("terms, Undo: all rows of twelve saved calls and undos", () -> {
            for (int row = 0; row < 1 << 12; row++) {
                row(row);
            }
        });
        Check.test("terms, Undo: 4 saved, 2 taken back, 3 saved: the oldest is dropped", () -> {
            CamDrum drum = saved(4);
            drum.undo();
            drum.undo();
            for (int dwell = 15; dwell <= 17; dwell++) {
                drum.setPawl(dwell, 0);
            }
            int[] due = {16, 15, 6, 5};
            for (int left = 3; left >= 0; left--) {
                Check.same("undo()", drum.undo(), left);
                Check.same("the dwell", drum.value(3), due[3 - left]);
            }
            Check.refusesState(drum, drum::undo);
        });
    }

    private static void undoContents() {
        Check.test("terms, Undo: a text of 100 bytes is not in the saved state", () -> {
            CamDrum drum = new CamDrum();
            drum.turn(7);
            for (int i = 0; i < 100; i++) {
                drum.append('x');
            }
            drum.undo();
            Check.refusesState(drum, () -> drum.append('x'));
            Check.same("clearText()", drum.clearText(), 100);
        });
        Check.test("terms, Undo: a text that was emptied stays empty", () -> {
            CamDrum drum = new CamDrum();
            Check.tell(drum, "0:x.......;");
            drum.turn(7);
            drum.clearText();
            drum.undo();
            Check.same("clearText()", drum.clearText(), 0);
        });
        Check.test("terms, Undo: the counts of ticks, cycles and skips come back", () -> {
            CamDrum drum = new CamDrum();
            drum.setPawl(1, 1100);
            drum.run(9);
            int[] counts = {drum.value(9), drum.value(10), drum.value(11)};
            drum.run(400);
            drum.undo();
            Check.values(drum, 9, counts);
        });
        Check.test("terms, Undo: the four guards come back with their numbers", () -> {
            CamDrum drum = Twins.withGuards(4);
            drum.removeGuard(0);
            drum.removeGuard(0);
            drum.undo();
            drum.undo();
            for (int g = 0; g < 4; g++) {
                Check.same("the bound", drum.guard(g, 2), 10 + g);
            }
        });
        Check.test("terms, Undo: chart and skips that parse() has emptied come back", () -> {
            CamDrum drum = Check.drumOf("4:x.......;");
            drum.setPawl(4, 5000);
            drum.run(4);
            drum.parse();
            drum.undo();
            Check.same("chart(4, 0)", drum.chart(4, 0), 80);
            Check.same("skips(0)", drum.skips(0), 1);
        });
    }

    private static void exceptions() {
        Check.test("terms, Exceptions: refused calls, one behind the other, save nothing and change nothing",
                () -> Twins.changesNothing(drum -> {
                    Check.thrownBy(() -> drum.setCam(5, 0, true));
                    Check.thrownBy(() -> drum.setPawl(21, 0));
                    Check.thrownBy(() -> drum.setCylinder(0, 10, 1, 0));
                    Check.thrownBy(() -> drum.setAir(99, 0));
                    Check.thrownBy(() -> drum.addGuard(0, 0, 1));
                    Check.thrownBy(() -> drum.removeGuard(4));
                    Check.thrownBy(() -> drum.turn(-1));
                    Check.thrownBy(() -> drum.run(501));
                    Check.thrownBy(() -> drum.append(128));
                }));
        Check.test("terms, Exceptions: of two that apply the one that is listed first", () -> {
            Twins.refused(Twins.INDEX, drum -> drum.setCylinder(-1, 10, 0, 21));
            Twins.refused(Twins.INDEX, drum -> drum.addGuard(-1, 0, 0));
            Twins.refused(Twins.INDEX, drum -> drum.cylinder(-1, 8));
            Twins.refused(Twins.INDEX, drum -> drum.guard(-1, 4));
        });
        Check.test("terms, Exceptions: numbers far from each range, all at once", () -> {
            for (int far : new int[] {Integer.MIN_VALUE, Integer.MAX_VALUE}) {
                Twins.refused(Twins.INDEX, drum -> drum.setCam(far, far, true));
                Twins.refused(Twins.ARGUMENT, drum -> drum.setPawl(far, far));
                Twins.refused(Twins.INDEX, drum -> drum.setCylinder(far, far, far, far));
                Twins.refused(Twins.ARGUMENT, drum -> drum.setAir(far, far));
                Twins.refused(Twins.INDEX, drum -> drum.addGuard(far, far, far));
                Twins.refused(Twins.INDEX, drum -> drum.cam(far, far));
                Twins.refused(Twins.INDEX, drum -> drum.cylinder(far, far));
                Twins.refused(Twins.INDEX, drum -> drum.guard(far, far));
                Twins.refused(Twins.INDEX, drum -> drum.chart(far, far));
            }
        });
    }

    private static void digest() {
        Check.test("promise 26, digest: of a new drum, worked out by the document's words", () ->
                Check.same("digest()", new CamDrum().digest(), -830057438456990455L));
        Check.test("promise 26, digest: no text and 100 bytes", () -> {
            CamDrum drum = new CamDrum();
            for (int i = 0; i < 100; i++) {
                drum.append(i);
            }
            Check.same("100 bytes", drum.digest(), StateTests.formula(drum, 100, 0));
            drum.clearText();
            Check.same("no text", drum.digest(), new CamDrum().digest());
        });
        Check.test("promise 26, digest: the bytes of the text do not matter, its length does", () -> {
            CamDrum one = new CamDrum();
            CamDrum other = new CamDrum();
            one.append(0);
            other.append(127);
            Check.same("digest()", one.digest(), other.digest());
            Check.same("digest()", one.digest() == new CamDrum().digest(), false);
        });
        Check.test("promise 26, digest: no guards and all 4", () -> {
            for (int guards = 0; guards <= 4; guards++) {
                CamDrum drum = Twins.withGuards(guards);
                Check.same(guards + " guards", drum.digest(), StateTests.formula(drum, 17, 4));
            }
        });
        Check.test("promise 26, digest: 2 steps and 16", () -> {
            CamDrum few = Check.drumOf("n2;");
            few.run(3);
            Check.same("2 steps", few.digest(), StateTests.formula(few, 3, 2));
            CamDrum many = Check.drumOf("n16;4:...............x;");
            many.turn(15);
            many.run(3);
            Check.same("16 steps", many.digest(), StateTests.formula(many, 23, 3));
        });
        Check.test("promise 26, digest: no next cycle in 1000 ticks", () -> {
            CamDrum drum = new CamDrum();
            drum.setPawl(1, 5000);
            Check.same("ticksToCycle()", drum.ticksToCycle(), CamDrum.NONE);
            Check.same("digest()", drum.digest(), StateTests.formula(drum, 0, 1));
        });
        Check.test("promise 26, digest: no saved state to 4, and not more", () -> {
            for (int calls = 0; calls <= 6; calls++) {
                CamDrum drum = saved(calls);
                Check.same(calls + " calls", drum.digest(), StateTests.formula(drum, 0, Math.min(calls, 4)));
            }
        });
        Check.test("promise 26, digest: it changes nothing", () -> Twins.changesNothing(CamDrum::digest));
    }

    private static void mostCalls() {
        Check.test("the document: an object answers 512 calls", () -> {
            CamDrum running = new CamDrum();
            for (int call = 1; call < MOST_CALLS; call++) {
                running.run(100);
            }
            Check.same("the 512th call", running.value(9), 100 * (MOST_CALLS - 1));
            CamDrum asked = new CamDrum();
            for (int call = 1; call <= MOST_CALLS; call++) {
                Check.same("call " + call, asked.ticksToCycle(), 32);
            }
        });
    }
}
