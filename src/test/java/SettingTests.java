/** Promises 1 to 8: the new object and the calls that set something. */
final class SettingTests {
    private SettingTests() {
    }

    static void run() {
        Check.test("promise 1: a new object", SettingTests::promise1);
        Check.test("promise 2: setCam", SettingTests::promise2);
        Check.test("promise 2: setCam, wrong", SettingTests::promise2Wrong);
        Check.test("promise 3: setPawl", SettingTests::promise3);
        Check.test("promise 3: setPawl, wrong", SettingTests::promise3Wrong);
        Check.test("promise 4: setCylinder", SettingTests::promise4);
        Check.test("promise 4: setCylinder, wrong", SettingTests::promise4Wrong);
        Check.test("promise 5: setAir", SettingTests::promise5);
        Check.test("promise 5: setAir, wrong", SettingTests::promise5Wrong);
        Check.test("promise 6: addGuard", SettingTests::promise6);
        Check.test("promise 6: addGuard, wrong", SettingTests::promise6Wrong);
        Check.test("promise 7: removeGuard", SettingTests::promise7);
        Check.test("promise 7: removeGuard, wrong", SettingTests::promise7Wrong);
        Check.test("promise 8: turn", SettingTests::promise8);
        Check.test("promise 8: turn, wrong", SettingTests::promise8Wrong);
    }

    private static void promise1() {
        CamDrum drum = new CamDrum();
        Check.values(drum, 0, 8, 0, 0, 4, 100, 1000, 2000, 50, 0, 0, 0, 0, 1000, 0, 0, 0);
        int[] due = {0, 2, 20, 0, 0, 100, 0, 0};
        for (int c = 0; c < 5; c++) {
            for (int what = 0; what < due.length; what++) {
                Check.same("cylinder(" + c + ", " + what + ")", drum.cylinder(c, what), due[what]);
            }
            for (int step = 0; step < 8; step++) {
                Check.same("cam", drum.cam(c, step), false);
                Check.same("chart", drum.chart(c, step), CamDrum.NONE);
            }
        }
        for (int step = 0; step < 8; step++) {
            Check.same("skips", drum.skips(step), 0);
        }
        Check.refusesState(drum, drum::undo);
        Check.same("clearText()", drum.clearText(), 0);
        Check.same("two objects are apart", new CamDrum().setCam(0, 0, true), 1);
        Check.same("two objects are apart", drum.cam(0, 0), false);
    }

    private static void promise2() {
        CamDrum drum = new CamDrum();
        Check.same("first cam", drum.setCam(2, 0, true), 1);
        Check.same("second cam", drum.setCam(2, 7, true), 2);
        Check.same("the same cam again", drum.setCam(2, 7, true), 2);
        Check.same("another track", drum.setCam(4, 7, true), 1);
        Check.same("first track", drum.setCam(0, 3, true), 1);
        Check.same("taken away", drum.setCam(2, 0, false), 1);
        Check.same("taken away again", drum.setCam(2, 0, false), 1);
        Check.same("taken where none was", drum.setCam(1, 5, false), 0);
        Check.same("cam(2, 0)", drum.cam(2, 0), false);
        Check.same("cam(2, 7)", drum.cam(2, 7), true);
        Check.same("cam(4, 7)", drum.cam(4, 7), true);
        long before = drum.digest();
        drum.setCam(3, 3, true);
        Check.undone(drum, before, 4);
        CamDrum unchanging = new CamDrum();
        before = unchanging.digest();
        unchanging.setCam(0, 0, false);
        Check.undone(unchanging, before, 0);
        CamDrum many = Check.drumOf("n16;");
        for (int step = 0; step < 16; step++) {
            Check.same("cams of 16 steps", many.setCam(1, step, true), step + 1);
        }
    }

    private static void promise2Wrong() {
        CamDrum drum = new CamDrum();
        Check.refusesIndex(drum, () -> drum.setCam(-1, 0, true));
        Check.refusesIndex(drum, () -> drum.setCam(5, 0, true));
        Check.refusesIndex(drum, () -> drum.setCam(0, -1, true));
        Check.refusesIndex(drum, () -> drum.setCam(0, 8, true));
        Check.refusesIndex(drum, () -> drum.setCam(Integer.MAX_VALUE, Integer.MIN_VALUE, false));
        CamDrum few = Check.drumOf("n2;");
        few.setCam(0, 1, true);
        Check.refusesIndex(few, () -> few.setCam(0, 2, true));
        CamDrum many = Check.drumOf("n16;");
        Check.refusesIndex(many, () -> many.setCam(0, 16, true));
    }

    private static void promise3() {
        CamDrum drum = new CamDrum();
        Check.same("previous dwell", drum.setPawl(1, 0), 4);
        Check.values(drum, 3, 1, 0);
        Check.same("previous dwell", drum.setPawl(20, 5000), 1);
        Check.values(drum, 3, 20, 5000);
        long before = drum.digest();
        drum.setPawl(7, 8);
        Check.undone(drum, before, 2);
        CamDrum standing = new CamDrum();
        standing.run(3);
        standing.setPawl(2, 100);
        Check.values(standing, 1, 0, 3);
        standing.run(1);
        Check.values(standing, 1, 1, 0);
    }

    private static void promise3Wrong() {
        CamDrum drum = new CamDrum();
        Check.refusesArgument(drum, () -> drum.setPawl(0, 0));
        Check.refusesArgument(drum, () -> drum.setPawl(21, 0));
        Check.refusesArgument(drum, () -> drum.setPawl(1, -1));
        Check.refusesArgument(drum, () -> drum.setPawl(1, 5001));
        Check.refusesArgument(drum, () -> drum.setPawl(Integer.MIN_VALUE, Integer.MAX_VALUE));
    }

    private static void promise4() {
        CamDrum drum = new CamDrum();
        drum.setCam(3, 0, true);
        drum.run(2);
        Check.same("how far out", drum.setCylinder(3, 9, 50, 20), 40);
        Check.same("size", drum.cylinder(3, 1), 9);
        Check.same("speed", drum.cylinder(3, 2), 50);
        Check.same("leak", drum.cylinder(3, 3), 20);
        Check.same("how far out", drum.setCylinder(3, 1, 1, 0), 40);
        Check.same("size", drum.cylinder(3, 1), 1);
        Check.same("speed", drum.cylinder(3, 2), 1);
        Check.same("leak", drum.cylinder(3, 3), 0);
        Check.same("how far out is another", drum.setCylinder(0, 5, 6, 7), 0);
        Check.same("the third has its size still", drum.cylinder(3, 1), 1);
        Check.same("the second has its size still", drum.cylinder(2, 1), 2);
        long before = drum.digest();
        drum.setCylinder(4, 3, 3, 3);
        Check.undone(drum, before, 4);
    }

    private static void promise4Wrong() {
        CamDrum drum = new CamDrum();
        Check.refusesIndex(drum, () -> drum.setCylinder(-1, 1, 1, 0));
        Check.refusesIndex(drum, () -> drum.setCylinder(5, 1, 1, 0));
        Check.refusesIndex(drum, () -> drum.setCylinder(5, 0, 0, -1));
        Check.refusesArgument(drum, () -> drum.setCylinder(0, 0, 1, 0));
        Check.refusesArgument(drum, () -> drum.setCylinder(0, 10, 1, 0));
        Check.refusesArgument(drum, () -> drum.setCylinder(0, 1, 0, 0));
        Check.refusesArgument(drum, () -> drum.setCylinder(0, 1, 51, 0));
        Check.refusesArgument(drum, () -> drum.setCylinder(0, 1, 1, -1));
        Check.refusesArgument(drum, () -> drum.setCylinder(4, 1, 1, 21));
    }

    private static void promise5() {
        CamDrum drum = new CamDrum();
        Check.same("tank", drum.setAir(9999, 500), 1000);
        Check.values(drum, 5, 1000, 9999, 500);
        Check.same("tank", drum.setAir(1000, 0), 1000);
        Check.values(drum, 12, 1000, 0);
        Check.same("tank", drum.setAir(999, 0), 999);
        Check.values(drum, 12, 1000, 1);
        Check.same("tank", drum.setAir(100, 7), 100);
        Check.values(drum, 5, 100, 100, 7);
        Check.values(drum, 12, 1000, 900, 0, 0);
        long before = drum.digest();
        drum.setAir(5000, 5);
        Check.undone(drum, before, 4);
        Check.same("undo()", drum.undo(), 2);
        Check.values(drum, 5, 999, 999, 0);
        Check.values(drum, 12, 1000, 1);
    }

    private static void promise5Wrong() {
        CamDrum drum = new CamDrum();
        Check.refusesArgument(drum, () -> drum.setAir(99, 0));
        Check.refusesArgument(drum, () -> drum.setAir(10000, 0));
        Check.refusesArgument(drum, () -> drum.setAir(100, -1));
        Check.refusesArgument(drum, () -> drum.setAir(100, 501));
        Check.refusesArgument(drum, () -> drum.setAir(-100, Integer.MIN_VALUE));
    }

    private static void promise6() {
        CamDrum drum = new CamDrum();
        Check.same("first", drum.addGuard(0, 4, 1), 0);
        Check.same("second", drum.addGuard(4, 0, 99), 1);
        Check.same("the same again", drum.addGuard(4, 0, 99), 2);
        long before = drum.digest();
        Check.same("fourth", drum.addGuard(2, 3, 50), 3);
        Check.same("guards", drum.value(8), 4);
        Check.same("guarded", drum.guard(3, 0), 2);
        Check.same("other", drum.guard(3, 1), 3);
        Check.same("bound", drum.guard(3, 2), 50);
        Check.undone(drum, before, 3);
        Check.same("fourth again", drum.addGuard(1, 2, 3), 3);
    }

    private static void promise6Wrong() {
        CamDrum drum = new CamDrum();
        Check.refusesIndex(drum, () -> drum.addGuard(-1, 0, 1));
        Check.refusesIndex(drum, () -> drum.addGuard(5, 0, 1));
        Check.refusesIndex(drum, () -> drum.addGuard(0, -1, 1));
        Check.refusesIndex(drum, () -> drum.addGuard(0, 5, 1));
        Check.refusesIndex(drum, () -> drum.addGuard(5, 5, 0));
        Check.refusesArgument(drum, () -> drum.addGuard(3, 3, 50));
        Check.refusesArgument(drum, () -> drum.addGuard(0, 1, 0));
        Check.refusesArgument(drum, () -> drum.addGuard(0, 1, 100));
        for (int g = 0; g < 4; g++) {
            drum.addGuard(g, 4, 10);
        }
        Check.refusesState(drum, () -> drum.addGuard(0, 1, 1));
        Check.refusesArgument(drum, () -> drum.addGuard(0, 1, 100));
        Check.refusesArgument(drum, () -> drum.addGuard(1, 1, 10));
        Check.refusesIndex(drum, () -> drum.addGuard(1, 5, 10));
    }

    private static void promise7() {
        CamDrum drum = new CamDrum();
        for (int g = 0; g < 4; g++) {
            drum.addGuard(g, g + 1, 10 + g);
        }
        long before = drum.digest();
        Check.same("left", drum.removeGuard(1), 3);
        Check.same("value(8)", drum.value(8), 3);
        int[] due = {0, 2, 3};
        for (int g = 0; g < 3; g++) {
            Check.same("guarded", drum.guard(g, 0), due[g]);
            Check.same("other", drum.guard(g, 1), due[g] + 1);
            Check.same("bound", drum.guard(g, 2), 10 + due[g]);
        }
        Check.undone(drum, before, 4);
        Check.same("the last", drum.removeGuard(3), 3);
        Check.same("guarded by the new last", drum.guard(2, 0), 2);
        Check.same("the first", drum.removeGuard(0), 2);
        Check.same("guarded by the new first", drum.guard(0, 0), 1);
        Check.same("one is left", drum.removeGuard(1), 1);
        Check.same("none is left", drum.removeGuard(0), 0);
        Check.same("the first again", drum.addGuard(0, 1, 1), 0);
    }

    private static void promise7Wrong() {
        CamDrum drum = new CamDrum();
        Check.refusesIndex(drum, () -> drum.removeGuard(0));
        drum.addGuard(0, 1, 1);
        Check.refusesIndex(drum, () -> drum.removeGuard(-1));
        Check.refusesIndex(drum, () -> drum.removeGuard(1));
        Check.refusesIndex(drum, () -> drum.removeGuard(4));
        drum.removeGuard(0);
        Check.refusesIndex(drum, () -> drum.removeGuard(0));
    }

    private static void promise8() {
        CamDrum drum = new CamDrum();
        drum.run(3);
        Check.same("previous step", drum.turn(7), 0);
        Check.values(drum, 1, 7, 0);
        Check.same("chart is as it was", drum.chart(0, 7), CamDrum.NONE);
        drum.run(2);
        long before = drum.digest();
        Check.same("previous step", drum.turn(0), 7);
        Check.values(drum, 1, 0, 0);
        Check.same("no cycle is over", drum.value(10), 0);
        Check.same("no tick", drum.value(9), 5);
        Check.undone(drum, before, 3);
        Check.values(drum, 1, 7, 2);
        Check.same("to the same step", drum.turn(7), 7);
        Check.values(drum, 1, 7, 0);
        Check.same("three ticks are left at the step", drum.run(3), 0);
        Check.same("the cycle is over by the fourth", drum.run(1), 1);
    }

    private static void promise8Wrong() {
        CamDrum drum = new CamDrum();
        Check.refusesIndex(drum, () -> drum.turn(-1));
        Check.refusesIndex(drum, () -> drum.turn(8));
        CamDrum many = Check.drumOf("n16;");
        Check.same("turn(15)", many.turn(15), 0);
        Check.refusesIndex(many, () -> many.turn(16));
        CamDrum few = Check.drumOf("n2;");
        Check.same("turn(1)", few.turn(1), 0);
        Check.refusesIndex(few, () -> few.turn(2));
    }
}
