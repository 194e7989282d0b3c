/** The edges of promises 1 to 8: each sentence of the document that names one has a test of its own. */
final class SettingEdgeTests {
    private SettingEdgeTests() {
    }

    static void run() {
        newObject();
        initialValues();
        setCam();
        setPawl();
        setCylinder();
        setAir();
        addGuard();
        addGuardExceptions();
        removeGuard();
        turn();
    }

    private static void newObject() {
        Check.test("promise 1, a new object: 8 steps, of which 7 is the last", () -> {
            Check.same("value(0)", new CamDrum().value(0), 8);
            Twins.rangeOn(CamDrum::new, 0, 7, Twins.INDEX, CamDrum::turn);
        });
        Check.test("promise 1, a new object: no cams", () -> {
            CamDrum drum = new CamDrum();
            for (int track = 0; track < 5; track++) {
                Check.same("cams of track " + track, drum.cylinder(track, 4), 0);
                for (int step = 0; step < 8; step++) {
                    Check.same("cam(" + track + ", " + step + ")", drum.cam(track, step), false);
                }
            }
        });
        Check.test("promise 1, a new object: no guard", () -> {
            Check.same("value(8)", new CamDrum().value(8), 0);
            Twins.refusedOn(CamDrum::new, Twins.INDEX, drum -> drum.guard(0, 0));
            Twins.refusedOn(CamDrum::new, Twins.INDEX, drum -> drum.removeGuard(0));
        });
        Check.test("promise 1, a new object: no text", () -> Check.same("clearText()", new CamDrum().clearText(), 0));
        Check.test("promise 1, a new object: no saved state",
                () -> Twins.refusedOn(CamDrum::new, Twins.STATE, CamDrum::undo));
        Check.test("promise 1, a new object: no chart and no skips", () -> {
            CamDrum drum = new CamDrum();
            for (int step = 0; step < 8; step++) {
                Check.same("skips(" + step + ")", drum.skips(step), 0);
                for (int c = 0; c < 5; c++) {
                    Check.same("chart(" + c + ", " + step + ")", drum.chart(c, step), CamDrum.NONE);
                }
            }
        });
    }

    private static void initialValues() {
        Check.test("terms, Drum: it stands at step 0 at first, its dwell is 4",
                () -> Check.values(new CamDrum(), 1, 0, 0, 4));
        Check.test("terms, Cylinders: out by 0, size 2, speed 20, leak 0 at first", () -> {
            int[] due = {0, 2, 20, 0};
            for (int c = 0; c < 5; c++) {
                for (int what = 0; what < due.length; what++) {
                    Check.same("cylinder(" + c + ", " + what + ")", new CamDrum().cylinder(c, what), due[what]);
                }
            }
        });
        Check.test("terms, Air: least air 100, tank 1000, capacity 2000, compressor 50 at first",
                () -> Check.values(new CamDrum(), 4, 100, 1000, 2000, 50));
        Check.test("terms, a new drum: no ticks, cycles and skips; of all air only the first 1000 was made",
                () -> Check.values(new CamDrum(), 9, 0, 0, 0, 1000, 0, 0, 0));
    }

    private static void setCam() {
        Check.test("promise 2, setCam: a track is 0 to 4",
                () -> Twins.range(0, 4, Twins.INDEX, (drum, track) -> drum.setCam(track, 0, true)));
        Check.test("promise 2, setCam: a step is 0 to the last one, of 2, 8 and 16",
                () -> Twins.stepRange((drum, step) -> drum.setCam(4, step, true)));
        Check.test("promise 2, setCam: from no cam to all 16 and back", () -> {
            CamDrum drum = Check.drumOf("n16;");
            for (int step = 0; step < 16; step++) {
                Check.same("cams", drum.setCam(4, step, true), step + 1);
            }
            for (int step = 0; step < 16; step++) {
                Check.same("cams", drum.setCam(4, step, false), 15 - step);
            }
        });
        Check.test("promise 2, setCam: a cam that is there, and none where none is", () -> {
            CamDrum drum = Check.drumOf("4:.......x;");
            Check.same("set again", drum.setCam(4, 7, true), 1);
            Check.same("taken where none is", drum.setCam(4, 6, false), 1);
            Check.same("the last one taken", drum.setCam(4, 7, false), 0);
            Check.same("taken again", drum.setCam(4, 7, false), 0);
        });
        Check.test("promise 2, setCam: the first and the last cam are set apart from all others", () -> {
            CamDrum drum = Check.drumOf("n16;");
            drum.setCam(0, 0, true);
            drum.setCam(4, 15, true);
            for (int track = 0; track < 5; track++) {
                for (int step = 0; step < 16; step++) {
                    boolean due = track == 0 && step == 0 || track == 4 && step == 15;
                    Check.same("cam(" + track + ", " + step + ")", drum.cam(track, step), due);
                }
            }
        });
        Check.test("promise 2, setCam: neither track nor step is there",
                () -> Twins.refused(Twins.INDEX, drum -> drum.setCam(5, 16, false)));
        Check.test("promise 2, setCam: undoable", () -> Twins.undoable(drum -> drum.setCam(3, 5, true)));
        Check.test("promise 2, setCam: undoable when it changes nothing",
                () -> Twins.undoable(drum -> drum.setCam(3, 0, false)));
    }

    private static void setPawl() {
        Check.test("promise 3, setPawl: the dwell is 1 to 20",
                () -> Twins.range(1, 20, Twins.ARGUMENT, (drum, dwell) -> drum.setPawl(dwell, 100)));
        Check.test("promise 3, setPawl: the least air is 0 to 5000",
                () -> Twins.range(0, 5000, Twins.ARGUMENT, (drum, least) -> drum.setPawl(4, least)));
        Check.test("promise 3, setPawl: both out of range",
                () -> Twins.refused(Twins.ARGUMENT, drum -> drum.setPawl(0, 5001)));
        Check.test("promise 3, setPawl: the previous dwell, from the least to the greatest", () -> {
            CamDrum drum = new CamDrum();
            Check.same("the first dwell", drum.setPawl(1, 5000), 4);
            Check.values(drum, 3, 1, 5000);
            Check.same("the least", drum.setPawl(20, 0), 1);
            Check.values(drum, 3, 20, 0);
            Check.same("the greatest", drum.setPawl(20, 0), 20);
        });
        Check.test("promise 3, setPawl: undoable", () -> Twins.undoable(drum -> drum.setPawl(20, 5000)));
        Check.test("promise 3, setPawl: undoable when it changes nothing",
                () -> Twins.undoable(drum -> drum.setPawl(drum.value(3), drum.value(4))));
    }

    private static void setCylinder() {
        Check.test("promise 4, setCylinder: a cylinder is 0 to 4",
                () -> Twins.range(0, 4, Twins.INDEX, (drum, c) -> drum.setCylinder(c, 1, 1, 0)));
        Check.test("promise 4, setCylinder: the size is 1 to 9",
                () -> Twins.range(1, 9, Twins.ARGUMENT, (drum, size) -> drum.setCylinder(0, size, 1, 0)));
        Check.test("promise 4, setCylinder: the speed is 1 to 50",
                () -> Twins.range(1, 50, Twins.ARGUMENT, (drum, speed) -> drum.setCylinder(0, 1, speed, 0)));
        Check.test("promise 4, setCylinder: the leak is 0 to 20",
                () -> Twins.range(0, 20, Twins.ARGUMENT, (drum, leak) -> drum.setCylinder(0, 1, 1, leak)));
        Check.test("promise 4, setCylinder: no such cylinder, listed first, and all else out of range",
                () -> Twins.refused(Twins.INDEX, drum -> drum.setCylinder(5, 0, 51, -1)));
        Check.test("promise 4, setCylinder: the least and the greatest of all are kept", () -> {
            CamDrum drum = new CamDrum();
            drum.setCylinder(0, 1, 1, 0);
            drum.setCylinder(4, 9, 50, 20);
            int[][] due = {{1, 1, 0}, {2, 20, 0}, {2, 20, 0}, {2, 20, 0}, {9, 50, 20}};
            for (int c = 0; c < 5; c++) {
                for (int what = 1; what <= 3; what++) {
                    Check.same("cylinder(" + c + ", " + what + ")", drum.cylinder(c, what), due[c][what - 1]);
                }
            }
        });
        Check.test("promise 4, setCylinder: how far out, in and out all the way", () -> {
            CamDrum drum = Check.drumOf("4:xxxxxxxx;");
            Check.same("in", drum.setCylinder(4, 1, 50, 0), 0);
            drum.run(2);
            Check.same("out all the way", drum.setCylinder(4, 9, 1, 20), 100);
        });
        Check.test("promise 4, setCylinder: undoable", () -> Twins.undoable(drum -> drum.setCylinder(4, 9, 50, 20)));
        Check.test("promise 4, setCylinder: undoable when it changes nothing",
                () -> Twins.undoable(drum -> drum.setCylinder(4, 2, 20, 0)));
    }

    private static void setAir() {
        Check.test("promise 5, setAir: the capacity is 100 to 9999",
                () -> Twins.range(100, 9999, Twins.ARGUMENT, (drum, capacity) -> drum.setAir(capacity, 50)));
        Check.test("promise 5, setAir: the compressor is 0 to 500",
                () -> Twins.range(0, 500, Twins.ARGUMENT, (drum, compressor) -> drum.setAir(2000, compressor)));
        Check.test("promise 5, setAir: both out of range",
                () -> Twins.refused(Twins.ARGUMENT, drum -> drum.setAir(99, 501)));
        Check.test("promise 5, setAir: the least and the greatest are kept", () -> {
            CamDrum drum = new CamDrum();
            drum.setAir(9999, 500);
            Check.values(drum, 6, 9999, 500);
            drum.setAir(100, 0);
            Check.values(drum, 6, 100, 0);
        });
        Check.test("promise 5, setAir: a capacity that the tank just has lets nothing off", () -> {
            CamDrum drum = new CamDrum();
            Check.same("the tank", drum.setAir(1000, 50), 1000);
            Check.values(drum, 12, 1000, 0);
        });
        Check.test("promise 5, setAir: a capacity one below the tank lets one off", () -> {
            CamDrum drum = new CamDrum();
            Check.same("the tank", drum.setAir(999, 50), 999);
            Check.values(drum, 12, 1000, 1);
        });
        Check.test("promise 5, setAir: air that was let off does not come back", () -> {
            CamDrum drum = new CamDrum();
            Check.same("the least capacity", drum.setAir(100, 50), 100);
            Check.same("the greatest capacity", drum.setAir(9999, 50), 100);
            Check.values(drum, 12, 1000, 900);
        });
        Check.test("promise 5, setAir: undoable", () -> Twins.undoable(drum -> drum.setAir(100, 500)));
        Check.test("promise 5, setAir: undoable when it changes nothing",
                () -> Twins.undoable(drum -> drum.setAir(drum.value(6), drum.value(7))));
    }

    private static void addGuard() {
        Check.test("promise 6, addGuard: the guarded cylinder is 0 to 4",
                () -> Twins.range(0, 4, Twins.INDEX, (drum, guarded) -> drum.addGuard(guarded, 2, 50)));
        Check.test("promise 6, addGuard: the other cylinder is 0 to 4",
                () -> Twins.range(0, 4, Twins.INDEX, (drum, other) -> drum.addGuard(2, other, 50)));
        Check.test("promise 6, addGuard: both cylinders the same, each of the five", () -> {
            for (int c = 0; c < 5; c++) {
                int same = c;
                Twins.refused(Twins.ARGUMENT, drum -> drum.addGuard(same, same, 50));
            }
        });
        Check.test("promise 6, addGuard: the bound is 1 to 99",
                () -> Twins.range(1, 99, Twins.ARGUMENT, (drum, bound) -> drum.addGuard(0, 1, bound)));
        Check.test("promise 6, addGuard: guards are numbered from 0 to 3", () -> {
            CamDrum drum = new CamDrum();
            for (int g = 0; g < 4; g++) {
                Check.same("the number", drum.addGuard(4, 0, 99), g);
                Check.same("value(8)", drum.value(8), g + 1);
            }
        });
        Check.test("terms, Guards: a fourth one is taken, a fifth one is not", () -> {
            Twins.takenOn(() -> Twins.withGuards(3), drum -> drum.addGuard(0, 1, 50));
            Twins.refusedOn(() -> Twins.withGuards(4), Twins.STATE, drum -> drum.addGuard(0, 1, 50));
        });
        Check.test("promise 6, addGuard: behind a removal there is a place again", () -> {
            CamDrum drum = Twins.withGuards(4);
            drum.removeGuard(0);
            Check.same("the number", drum.addGuard(4, 0, 99), 3);
            Check.same("the guarded one", drum.guard(3, 0), 4);
        });
        Check.test("promise 6, addGuard: undoable", () -> Twins.undoable(drum -> drum.addGuard(4, 0, 99)));
    }

    private static void addGuardExceptions() {
        Check.test("promise 6, addGuard: no such cylinder is listed ahead of a bound out of range",
                () -> Twins.refused(Twins.INDEX, drum -> drum.addGuard(5, 0, 100)));
        Check.test("promise 6, addGuard: no such cylinder is listed ahead of both the same",
                () -> Twins.refused(Twins.INDEX, drum -> drum.addGuard(-1, -1, 50)));
        Check.test("promise 6, addGuard: no such cylinder is listed ahead of 4 guards", () -> {
            Twins.refusedOn(() -> Twins.withGuards(4), Twins.INDEX, drum -> drum.addGuard(5, 0, 50));
            Twins.refusedOn(() -> Twins.withGuards(4), Twins.INDEX, drum -> drum.addGuard(0, 5, 50));
        });
        Check.test("promise 6, addGuard: both the same is listed ahead of 4 guards",
                () -> Twins.refusedOn(() -> Twins.withGuards(4), Twins.ARGUMENT, drum -> drum.addGuard(1, 1, 50)));
        Check.test("promise 6, addGuard: a bound out of range is listed ahead of 4 guards", () -> {
            Twins.refusedOn(() -> Twins.withGuards(4), Twins.ARGUMENT, drum -> drum.addGuard(0, 1, 0));
            Twins.refusedOn(() -> Twins.withGuards(4), Twins.ARGUMENT, drum -> drum.addGuard(0, 1, 100));
        });
        Check.test("promise 6, addGuard: all three at once",
                () -> Twins.refusedOn(() -> Twins.withGuards(4), Twins.INDEX, drum -> drum.addGuard(5, 5, 0)));
    }

    /** The bounds that Twins.withGuards(4) gives tell which guards are left. */
    private static void left(int removed, int... bounds) {
        CamDrum drum = Twins.withGuards(4);
        Check.same("guards left", drum.removeGuard(removed), 3);
        for (int g = 0; g < 3; g++) {
            Check.same("the guarded one of guard " + g, drum.guard(g, 0), bounds[g] - 10);
            Check.same("the other one of guard " + g, drum.guard(g, 1), bounds[g] - 9);
            Check.same("the bound of guard " + g, drum.guard(g, 2), bounds[g]);
        }
        Check.refusesIndex(drum, () -> drum.guard(3, 0));
    }

    private static void removeGuard() {
        Check.test("promise 7, removeGuard: there is none", () -> {
            Twins.refusedOn(() -> Twins.withGuards(0), Twins.INDEX, drum -> drum.removeGuard(0));
            Twins.refusedOn(() -> Twins.withGuards(0), Twins.INDEX, drum -> drum.removeGuard(-1));
        });
        Check.test("promise 7, removeGuard: a guard is 0 to the last one, of 1 to 4", () -> {
            for (int guards = 1; guards <= 4; guards++) {
                int count = guards;
                Twins.rangeOn(() -> Twins.withGuards(count), 0, count - 1, Twins.INDEX, CamDrum::removeGuard);
            }
        });
        Check.test("promise 7, removeGuard: the first; all others move up", () -> left(0, 11, 12, 13));
        Check.test("promise 7, removeGuard: one in between; those behind it move up", () -> {
            left(1, 10, 12, 13);
            left(2, 10, 11, 13);
        });
        Check.test("promise 7, removeGuard: the last; none moves up", () -> left(3, 10, 11, 12));
        Check.test("promise 7, removeGuard: down to none", () -> {
            CamDrum drum = Twins.withGuards(4);
            for (int left = 3; left >= 0; left--) {
                Check.same("guards left", drum.removeGuard(0), left);
                Check.same("value(8)", drum.value(8), left);
            }
            Check.refusesIndex(drum, () -> drum.removeGuard(0));
        });
        Check.test("promise 7, removeGuard: undoable", () -> {
            Twins.undoable(drum -> drum.removeGuard(0));
            Twins.undoable(drum -> drum.removeGuard(1));
        });
    }

    private static void turn() {
        Check.test("promise 8, turn: a step is 0 to the last one, of 2, 8 and 16",
                () -> Twins.stepRange(CamDrum::turn));
        Check.test("promise 8, turn: the previous step, the first and the last", () -> {
            CamDrum drum = Check.drumOf("n16;");
            Check.same("from the first to the last", drum.turn(15), 0);
            Check.same("value(1)", drum.value(1), 15);
            Check.same("from the last to the first", drum.turn(0), 15);
            Check.same("value(1)", drum.value(1), 0);
        });
        Check.test("promise 8, turn: the stand count becomes 0, at the same step, too", () -> {
            CamDrum drum = new CamDrum();
            drum.run(3);
            Check.same("the stand count ahead of it", drum.value(2), 3);
            Check.same("the previous step", drum.turn(0), 0);
            Check.values(drum, 1, 0, 0);
        });
        Check.test("promise 8, turn: from the last step to step 0 no cycle is over, and no tick passes", () -> {
            CamDrum drum = new CamDrum();
            drum.turn(7);
            drum.turn(0);
            Check.values(drum, 9, 0, 0);
        });
        Check.test("promise 8, turn: undoable", () -> Twins.undoable(drum -> drum.turn(5)));
        Check.test("promise 8, turn: undoable when it changes nothing", () -> {
            Twins.undoable(drum -> {
                drum.turn(drum.value(1));
            });
            CamDrum drum = new CamDrum();
            drum.turn(0);
            Check.same("undo()", drum.undo(), 0);
        });
    }
}
