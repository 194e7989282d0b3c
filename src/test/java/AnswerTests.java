/** Promises 10 to 15: the calls that tell something. */
final class AnswerTests {
    private AnswerTests() {
    }

    static void run() {
        Check.test("promise 10: cam", AnswerTests::promise10);
        Check.test("promise 11: cylinder", AnswerTests::promise11);
        Check.test("promise 11: cylinder, room by guards", AnswerTests::promise11Room);
        Check.test("promise 11: cylinder, wrong", AnswerTests::promise11Wrong);
        Check.test("promise 12: guard", AnswerTests::promise12);
        Check.test("promise 13: value", AnswerTests::promise13);
        Check.test("promise 14: chart", AnswerTests::promise14);
        Check.test("promise 15: skips", AnswerTests::promise15);
    }

    private static void promise10() {
        CamDrum drum = Check.drumOf("n16;0:x..............x;4:.x.............x;");
        Check.same("cam(0, 0)", drum.cam(0, 0), true);
        Check.same("cam(0, 1)", drum.cam(0, 1), false);
        Check.same("cam(0, 15)", drum.cam(0, 15), true);
        Check.same("cam(4, 0)", drum.cam(4, 0), false);
        Check.same("cam(4, 1)", drum.cam(4, 1), true);
        Check.same("cam(4, 15)", drum.cam(4, 15), true);
        Check.same("cam(3, 15)", drum.cam(3, 15), false);
        Check.refusesIndex(drum, () -> drum.cam(-1, 0));
        Check.refusesIndex(drum, () -> drum.cam(5, 0));
        Check.refusesIndex(drum, () -> drum.cam(0, -1));
        Check.refusesIndex(drum, () -> drum.cam(0, 16));
        CamDrum fresh = new CamDrum();
        Check.refusesIndex(fresh, () -> fresh.cam(0, 8));
    }

    private static void promise11() {
        CamDrum drum = Check.drumOf("1:xx.x....;");
        drum.setCylinder(1, 3, 13, 5);
        drum.run(2);
        int[] due = {26, 3, 13, 5, 3, 74, 78, 10};
        for (int what = 0; what < due.length; what++) {
            Check.same("cylinder(1, " + what + ")", drum.cylinder(1, what), due[what]);
        }
        Check.same("another one", drum.cylinder(0, 0), 0);
        Check.same("another one", drum.cylinder(2, 6), 0);
        long before = drum.digest();
        drum.cylinder(1, 5);
        Check.same("an answer changes nothing", drum.digest(), before);
    }

    private static void promise11Room() {
        CamDrum drum = Check.drumOf("0:x.......;1:x.......;");
        drum.setCylinder(0, 1, 50, 0);
        drum.setCylinder(1, 1, 35, 0);
        drum.addGuard(2, 0, 50);
        drum.addGuard(2, 1, 34);
        drum.addGuard(1, 0, 40);
        drum.addGuard(0, 1, 30);
        Check.same("no guard holds", drum.cylinder(2, 5), 100);
        drum.run(1);
        Check.outs(drum, 50, 35);
        Check.same("one guard holds, one is at its bound", drum.cylinder(2, 5), 34);
        Check.same("a part is left", drum.cylinder(1, 5), 5);
        Check.same("beyond the bound", drum.cylinder(0, 5), 0);
        Check.same("no guard", drum.cylinder(3, 5), 100);
        drum.setAir(100, 0);
        drum.setCylinder(3, 9, 1, 0);
        Check.same("neither air nor speed matters", drum.cylinder(3, 5), 100);
        CamDrum full = Check.drumOf("0:xx......;");
        full.run(5);
        Check.same("all the way", full.cylinder(0, 5), 0);
    }

    private static void promise11Wrong() {
        CamDrum drum = new CamDrum();
        Check.refusesIndex(drum, () -> drum.cylinder(-1, 0));
        Check.refusesIndex(drum, () -> drum.cylinder(5, 0));
        Check.refusesIndex(drum, () -> drum.cylinder(5, 8));
        Check.refusesArgument(drum, () -> drum.cylinder(0, -1));
        Check.refusesArgument(drum, () -> drum.cylinder(4, 8));
    }

    private static void promise12() {
        CamDrum drum = Check.drumOf("3:x.......;");
        drum.addGuard(0, 3, 20);
        drum.addGuard(1, 3, 19);
        drum.run(1);
        int[][] due = {{0, 3, 20, 0}, {1, 3, 19, 1}};
        for (int g = 0; g < 2; g++) {
            for (int what = 0; what < 4; what++) {
                Check.same("guard(" + g + ", " + what + ")", drum.guard(g, what), due[g][what]);
            }
        }
        drum.run(1);
        Check.same("it holds now", drum.guard(0, 3), 1);
        Check.refusesIndex(drum, () -> drum.guard(-1, 0));
        Check.refusesIndex(drum, () -> drum.guard(2, 0));
        Check.refusesIndex(drum, () -> drum.guard(2, 4));
        Check.refusesArgument(drum, () -> drum.guard(0, -1));
        Check.refusesArgument(drum, () -> drum.guard(1, 4));
        drum.removeGuard(0);
        Check.refusesIndex(drum, () -> drum.guard(1, 0));
    }

    private static void promise13() {
        CamDrum drum = Check.drumOf("n3;0:xx.;");
        drum.setCylinder(0, 2, 20, 3);
        drum.setPawl(2, 950);
        drum.setAir(990, 7);
        drum.addGuard(0, 1, 5);
        // The pawl's tries: tick 2 with 990 - 43 + 7 = 954 goes on, tick 4 with 882 skips.
        drum.run(5);
        Check.values(drum, 0, 3, 1, 1, 2, 950, 803, 990, 7, 1, 5, 0, 1, 1035, 17, 200, 15);
        Check.refusesArgument(drum, () -> drum.value(-1));
        Check.refusesArgument(drum, () -> drum.value(16));
        Check.refusesArgument(drum, () -> drum.value(Integer.MAX_VALUE));
    }

    private static void promise14() {
        CamDrum drum = Check.drumOf("0:x.......;");
        drum.run(1);
        Check.same("chart(0, 0)", drum.chart(0, 0), 20);
        Check.same("chart(4, 0)", drum.chart(4, 0), 0);
        Check.same("chart(0, 1)", drum.chart(0, 1), CamDrum.NONE);
        drum.run(3);
        Check.same("chart(0, 0)", drum.chart(0, 0), 60);
        Check.same("chart(0, 1)", drum.chart(0, 1), 40);
        drum.turn(7);
        Check.same("a turn is no tick", drum.chart(0, 7), CamDrum.NONE);
        drum.run(1);
        Check.same("chart(0, 7)", drum.chart(0, 7), 20);
        Check.same("chart(0, 0) stays", drum.chart(0, 0), 60);
        drum.run(3);
        Check.same("chart(0, 0) is written anew", drum.chart(0, 0), 20);
        Check.refusesIndex(drum, () -> drum.chart(-1, 0));
        Check.refusesIndex(drum, () -> drum.chart(5, 0));
        Check.refusesIndex(drum, () -> drum.chart(0, -1));
        Check.refusesIndex(drum, () -> drum.chart(0, 8));
        CamDrum many = Check.drumOf("n16;4:...............x;");
        many.turn(15);
        many.run(1);
        Check.same("chart(4, 15)", many.chart(4, 15), 20);
    }

    private static void promise15() {
        CamDrum drum = Check.drumOf("n16;");
        drum.setPawl(1, 5000);
        drum.run(3);
        drum.turn(15);
        drum.run(2);
        Check.same("skips(0)", drum.skips(0), 3);
        Check.same("skips(1)", drum.skips(1), 0);
        Check.same("skips(15)", drum.skips(15), 2);
        Check.same("all skips", drum.value(11), 5);
        Check.refusesIndex(drum, () -> drum.skips(-1));
        Check.refusesIndex(drum, () -> drum.skips(16));
        CamDrum fresh = new CamDrum();
        Check.refusesIndex(fresh, () -> fresh.skips(8));
    }
}
