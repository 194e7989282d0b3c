/** The edges of promises 10 to 15 and of the term Chart. */
final class AnswerEdgeTests {
    private AnswerEdgeTests() {
    }

    static void run() {
        cam();
        cylinder();
        roomByGuards();
        guard();
        value();
        accounts();
        chart();
        skips();
    }

    private static void cam() {
        Check.test("promise 10, cam: a track is 0 to 4",
                () -> Twins.range(0, 4, Twins.INDEX, (drum, track) -> drum.cam(track, 0)));
        Check.test("promise 10, cam: a step is 0 to the last one, of 2, 8 and 16",
                () -> Twins.stepRange((drum, step) -> drum.cam(4, step)));
        Check.test("promise 10, cam: neither track nor step is there",
                () -> Twins.refused(Twins.INDEX, drum -> drum.cam(-1, -1)));
        Check.test("promise 10, cam: no cams, and cams everywhere", () -> {
            CamDrum none = Check.drumOf("n2;");
            CamDrum all = Check.drumOf("n2;0:xx;1:xx;2:xx;3:xx;4:xx;");
            for (int track = 0; track < 5; track++) {
                for (int step = 0; step < 2; step++) {
                    Check.same("none", none.cam(track, step), false);
                    Check.same("everywhere", all.cam(track, step), true);
                }
            }
        });
        Check.test("promise 10, cam: it changes nothing", () -> Twins.changesNothing(drum -> drum.cam(4, 1)));
    }

    private static void cylinder() {
        Check.test("promise 11, cylinder: a cylinder is 0 to 4",
                () -> Twins.range(0, 4, Twins.INDEX, (drum, c) -> drum.cylinder(c, 0)));
        Check.test("promise 11, cylinder: what is 0 to 7",
                () -> Twins.range(0, 7, Twins.ARGUMENT, (drum, what) -> drum.cylinder(4, what)));
        Check.test("promise 11, cylinder: no such cylinder is listed ahead of what out of range", () -> {
            Twins.refused(Twins.INDEX, drum -> drum.cylinder(5, 8));
            Twins.refused(Twins.INDEX, drum -> drum.cylinder(-1, -1));
        });
        Check.test("promise 11, cylinder: in and out all the way (what 0 and 5)", () -> {
            CamDrum drum = Check.rods(0, 100);
            Check.outs(drum, 0, 100);
            Check.same("in, it could move out by", drum.cylinder(0, 5), 100);
            Check.same("out all the way, it could move out by", drum.cylinder(1, 5), 0);
        });
        Check.test("promise 11, cylinder: no cams and cams at all 16 steps (what 4)", () -> {
            CamDrum drum = Check.drumOf("n16;4:xxxxxxxxxxxxxxxx;");
            Check.same("no cams", drum.cylinder(0, 4), 0);
            Check.same("all cams", drum.cylinder(4, 4), 16);
        });
        Check.test("promise 11, cylinder: air used and leaked, none at first (what 6 and 7)", () -> {
            CamDrum drum = Check.drumOf("4:x.......;");
            drum.setCylinder(4, 9, 50, 20);
            Check.same("used", drum.cylinder(4, 6), 0);
            Check.same("leaked", drum.cylinder(4, 7), 0);
            drum.run(1);
            Check.same("used", drum.cylinder(4, 6), 450);
            Check.same("leaked", drum.cylinder(4, 7), 20);
        });
        Check.test("promise 11, cylinder: it changes nothing", () -> Twins.changesNothing(drum -> drum.cylinder(4, 5)));
    }

    /** What cylinder 0 could move out by, with a guard whose other one is cylinder 4. */
    private static void room(int out, int bound, int other, int due) {
        CamDrum drum = Check.rods(out, 0, 0, 0, other);
        drum.addGuard(0, 4, bound);
        Check.same("room from " + out + ", bound " + bound + ", other " + other, drum.cylinder(0, 5), due);
    }

    private static void roomByGuards() {
        Check.test("promise 11, cylinder: the other one at the bound and one beyond it (what 5)", () -> {
            room(20, 50, 50, 80);
            room(20, 50, 51, 30);
        });
        Check.test("promise 11, cylinder: the least bound and the greatest (what 5)", () -> {
            room(0, 1, 2, 1);
            room(0, 99, 100, 99);
            room(0, 99, 99, 100);
        });
        Check.test("promise 11, cylinder: below, at and beyond the bound, from 0 on (what 5)", () -> {
            room(49, 50, 100, 1);
            room(50, 50, 100, 0);
            room(51, 50, 100, 0);
            room(100, 50, 100, 0);
        });
        Check.test("promise 11, cylinder: the tank does not matter (what 5)", () -> {
            CamDrum drum = Check.rods(0, 0);
            drum.setAir(100, 0);
            drum.setCylinder(0, 2, 50, 0);
            drum.run(1);
            Check.same("the tank", drum.value(5), 0);
            Check.same("room", drum.cylinder(0, 5), 50);
            Check.same("room", drum.cylinder(1, 5), 100);
        });
    }

    private static void guard() {
        Check.test("promise 12, guard: there is none",
                () -> Twins.refusedOn(() -> Twins.withGuards(0), Twins.INDEX, drum -> drum.guard(0, 0)));
        Check.test("promise 12, guard: a guard is 0 to the last one, of 1 to 4", () -> {
            for (int guards = 1; guards <= 4; guards++) {
                int count = guards;
                Twins.rangeOn(() -> Twins.withGuards(count), 0, count - 1, Twins.INDEX, (drum, g) -> drum.guard(g, 3));
            }
        });
        Check.test("promise 12, guard: what is 0 to 3", () -> {
            Twins.Maker four = () -> Twins.withGuards(4);
            Twins.rangeOn(four, 0, 3, Twins.ARGUMENT, (drum, what) -> drum.guard(3, what));
        });
        Check.test("promise 12, guard: no such guard is listed ahead of what out of range", () -> {
            Twins.refused(Twins.INDEX, drum -> drum.guard(2, 4));
            Twins.refusedOn(() -> Twins.withGuards(4), Twins.INDEX, drum -> drum.guard(4, -1));
        });
        Check.test("promise 12, guard: the least and the greatest of each", () -> {
            CamDrum drum = new CamDrum();
            drum.addGuard(0, 4, 1);
            drum.addGuard(4, 0, 99);
            int[][] due = {{0, 4, 1, 0}, {4, 0, 99, 0}};
            for (int g = 0; g < 2; g++) {
                for (int what = 0; what < 4; what++) {
                    Check.same("guard(" + g + ", " + what + ")", drum.guard(g, what), due[g][what]);
                }
            }
        });
        Check.test("promise 12, guard: it holds when the other one is beyond the bound, not at it (what 3)", () -> {
            CamDrum drum = Check.rods(0, 1, 2, 99, 100);
            int[][] due = {{1, 1, 0}, {2, 1, 1}, {3, 99, 0}, {4, 99, 1}};
            for (int g = 0; g < 4; g++) {
                drum.addGuard(0, due[g][0], due[g][1]);
                Check.same("guard(" + g + ", 3)", drum.guard(g, 3), due[g][2]);
            }
        });
        Check.test("promise 12, guard: behind a removal the last number is gone", () -> {
            CamDrum drum = Twins.withGuards(4);
            drum.removeGuard(0);
            Check.same("the new last one", drum.guard(2, 2), 13);
            Check.refusesIndex(drum, () -> drum.guard(3, 2));
        });
        Check.test("promise 12, guard: it changes nothing", () -> Twins.changesNothing(drum -> drum.guard(1, 3)));
    }

    private static void value() {
        Check.test("promise 13, value: what is 0 to 15",
                () -> Twins.range(0, 15, Twins.ARGUMENT, CamDrum::value));
        Check.test("promise 13, value: the fewest steps and the most (what 0 and 1)", () -> {
            CamDrum few = Check.drumOf("n2;");
            few.turn(1);
            Check.values(few, 0, 2, 1);
            CamDrum many = Check.drumOf("n16;");
            many.turn(15);
            Check.values(many, 0, 16, 15);
        });
        Check.test("promise 13, value: the stand count is 0 to the dwell less one (what 2 and 3)", () -> {
            CamDrum drum = new CamDrum();
            drum.setPawl(20, 0);
            for (int stand = 0; stand < 20; stand++) {
                Check.values(drum, 2, stand, 20);
                drum.run(1);
            }
            Check.same("value(2)", drum.value(2), 0);
        });
        Check.test("promise 13, value: no guards and all 4 (what 8)", () -> {
            Check.same("none", Twins.withGuards(0).value(8), 0);
            Check.same("all", Twins.withGuards(4).value(8), 4);
        });
        Check.test("promise 13, value: it changes nothing", () -> Twins.changesNothing(drum -> drum.value(15)));
    }

    private static void accounts() {
        Check.test("promise 13, value: the air made begins with the first 1000 (what 12)", () -> {
            CamDrum drum = new CamDrum();
            Check.same("at first", drum.value(12), 1000);
            drum.run(1);
            Check.same("behind a tick", drum.value(12), 1050);
        });
        Check.test("promise 13, value: what is let off at once was made, too (what 12 and 13)", () -> {
            CamDrum drum = new CamDrum();
            drum.setAir(1000, 500);
            drum.run(1);
            Check.values(drum, 12, 1500, 500);
        });
        Check.test("promise 13, value: what setAir() lets off counts, and is not made (what 12 and 13)", () -> {
            CamDrum drum = new CamDrum();
            drum.setAir(100, 500);
            Check.values(drum, 12, 1000, 900);
        });
        Check.test("promise 13, value: the air used and leaked is that of all five cylinders (what 14 and 15)", () -> {
            CamDrum drum = new CamDrum();
            for (int c = 0; c < 5; c++) {
                drum.setCam(c, 0, true);
                drum.setCylinder(c, 1, 10 + c, 1 + c);
            }
            drum.run(1);
            Check.values(drum, 14, 60, 15);
        });
    }

    private static void chart() {
        Check.test("promise 14, chart: a cylinder is 0 to 4",
                () -> Twins.range(0, 4, Twins.INDEX, (drum, c) -> drum.chart(c, 0)));
        Check.test("promise 14, chart: a step is 0 to the last one, of 2, 8 and 16",
                () -> Twins.stepRange((drum, step) -> drum.chart(4, step)));
        Check.test("promise 14, chart: neither cylinder nor step is there",
                () -> Twins.refused(Twins.INDEX, drum -> drum.chart(5, 16)));
        Check.test("terms, Chart: NONE before any tick at the step, then how far out, 0 too", () -> {
            CamDrum drum = new CamDrum();
            Check.same("before any", drum.chart(4, 0), CamDrum.NONE);
            drum.run(1);
            Check.same("behind the first tick", drum.chart(4, 0), 0);
            Check.same("the next step", drum.chart(4, 1), CamDrum.NONE);
        });
        Check.test("terms, Chart: the tick that goes on is the first one at the new step", () -> {
            CamDrum drum = Check.drumOf("4:xxxxxxxx;");
            drum.run(3);
            Check.same("not yet", drum.chart(4, 1), CamDrum.NONE);
            drum.run(1);
            Check.same("step 0", drum.chart(4, 0), 60);
            Check.same("step 1", drum.chart(4, 1), 80);
        });
        Check.test("terms, Chart: the latest tick counts, out all the way and in again, a cycle later", () -> {
            CamDrum drum = Check.drumOf("n2;4:x.;");
            drum.setPawl(1, 0);
            drum.setCylinder(4, 1, 50, 0);
            drum.run(2);
            Check.same("step 1", drum.chart(4, 1), 0);
            Check.same("step 0", drum.chart(4, 0), 50);
            drum.setCam(4, 1, true);
            drum.run(2);
            Check.same("step 1", drum.chart(4, 1), 100);
            Check.same("step 0", drum.chart(4, 0), 100);
        });
        Check.test("terms, Chart: the last cylinder at the last of 16 steps, apart from all others", () -> {
            CamDrum drum = Check.drumOf("n16;4:...............x;");
            drum.turn(15);
            drum.run(1);
            Check.same("chart(4, 15)", drum.chart(4, 15), 20);
            Check.same("chart(3, 15)", drum.chart(3, 15), 0);
            Check.same("chart(4, 14)", drum.chart(4, 14), CamDrum.NONE);
            Check.same("chart(0, 0)", drum.chart(0, 0), CamDrum.NONE);
        });
        Check.test("promise 14, chart: it changes nothing", () -> Twins.changesNothing(drum -> drum.chart(4, 3)));
    }

    private static void skips() {
        Check.test("promise 15, skips: a step is 0 to the last one, of 2, 8 and 16",
                () -> Twins.stepRange(CamDrum::skips));
        Check.test("promise 15, skips: none where the drum has gone on, one for each skip", () -> {
            CamDrum drum = new CamDrum();
            drum.setPawl(1, 1050);
            drum.run(1);
            Check.same("it has gone on", drum.skips(0), 0);
            drum.setPawl(1, 5000);
            drum.run(1);
            Check.same("one skip", drum.skips(1), 1);
            drum.run(499);
            Check.same("500 skips", drum.skips(1), 500);
            Check.same("the step behind it", drum.skips(2), 0);
        });
        Check.test("terms, Chart: a skip counts for the step at which the drum stands, the first and the last", () -> {
            CamDrum drum = Check.drumOf("n16;");
            drum.setPawl(1, 5000);
            drum.run(2);
            drum.turn(15);
            drum.run(3);
            for (int step = 0; step < 16; step++) {
                Check.same("skips(" + step + ")", drum.skips(step), step == 0 ? 2 : step == 15 ? 3 : 0);
            }
        });
        Check.test("promise 15, skips: it changes nothing", () -> Twins.changesNothing(drum -> drum.skips(3)));
    }
}
