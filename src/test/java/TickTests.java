/** Promise 9: what the ticks do. */
final class TickTests {
    private TickTests() {
    }

    static void run() {
        Check.test("promise 9: a cylinder moves out and in", TickTests::promise9Moves);
        Check.test("promise 9: the rod's ends", TickTests::promise9Ends);
        Check.test("promise 9: the drum goes on", TickTests::promise9GoesOn);
        Check.test("promise 9: cycles", TickTests::promise9Cycles);
        Check.test("promise 9: the pawl skips", TickTests::promise9Skips);
        Check.test("promise 9: the pawl looks at the tank behind the compressor", TickTests::promise9PawlOrder);
        Check.test("promise 9: the air that there is", TickTests::promise9Air);
        Check.test("promise 9: the capacity", TickTests::promise9Capacity);
        Check.test("promise 9: guards", TickTests::promise9Guards);
        Check.test("promise 9: a guard at its bound", TickTests::promise9GuardBound);
        Check.test("promise 9: several guards", TickTests::promise9SeveralGuards);
        Check.test("promise 9: leaks", TickTests::promise9Leaks);
        Check.test("promise 9: no leak", TickTests::promise9NoLeak);
        Check.test("promise 9: accounts add up", TickTests::promise9Accounts);
        Check.test("promise 9: undo", TickTests::promise9Undo);
        Check.test("promise 9: wrong", TickTests::promise9Wrong);
        Check.test("promise 9: the limit of ticks", TickTests::promise9Limit);
    }

    private static void promise9Moves() {
        CamDrum drum = Check.drumOf("0:x.......;");
        Check.same("run(1)", drum.run(1), 0);
        Check.outs(drum, 20, 0, 0, 0, 0);
        Check.values(drum, 1, 0, 1);
        Check.values(drum, 5, 1010);
        Check.values(drum, 9, 1, 0, 0, 1050, 0, 40, 0);
        Check.same("used by the cylinder", drum.cylinder(0, 6), 40);
        drum.run(2);
        Check.outs(drum, 60);
        Check.same("tank", drum.value(5), 1030);
        drum.run(1);
        Check.outs(drum, 40);
        Check.values(drum, 1, 1, 0);
        Check.same("moving in needs no air", drum.value(5), 1080);
        Check.same("used", drum.value(14), 120);
    }

    private static void promise9Ends() {
        CamDrum drum = Check.drumOf("0:xx......;");
        drum.setCylinder(0, 1, 45, 0);
        drum.run(2);
        Check.outs(drum, 90);
        drum.run(1);
        Check.outs(drum, 100);
        Check.same("used", drum.cylinder(0, 6), 100);
        drum.run(1);
        Check.outs(drum, 100);
        Check.same("used", drum.cylinder(0, 6), 100);
        drum.turn(5);
        drum.run(2);
        Check.outs(drum, 10);
        drum.run(1);
        Check.outs(drum, 0);
    }

    private static void promise9GoesOn() {
        CamDrum drum = Check.drumOf("1:.x......;");
        drum.run(3);
        Check.values(drum, 1, 0, 3);
        Check.outs(drum, 0, 0);
        drum.run(1);
        Check.values(drum, 1, 1, 0);
        Check.outs(drum, 0, 20);
        drum.run(3);
        Check.values(drum, 1, 1, 3);
        drum.run(1);
        Check.values(drum, 1, 2, 0);
        Check.outs(drum, 0, 60);
    }

    private static void promise9Cycles() {
        CamDrum drum = new CamDrum();
        Check.same("run(31)", drum.run(31), 0);
        Check.values(drum, 1, 7, 3);
        Check.same("run(1)", drum.run(1), 1);
        Check.values(drum, 1, 0, 0);
        Check.same("run(32)", drum.run(32), 1);
        Check.same("cycles", drum.value(10), 2);
        CamDrum few = Check.drumOf("n2;");
        few.setPawl(1, 0);
        Check.same("run(500)", few.run(500), 250);
        Check.same("run(1)", few.run(1), 0);
        Check.same("run(1)", few.run(1), 1);
        CamDrum many = Check.drumOf("n16;");
        many.setPawl(20, 0);
        Check.same("run(319)", many.run(319), 0);
        Check.same("run(1)", many.run(1), 1);
    }

    private static void promise9Skips() {
        CamDrum drum = new CamDrum();
        drum.setAir(100, 0);
        drum.setPawl(4, 101);
        drum.run(4);
        Check.values(drum, 1, 0, 0);
        Check.same("all skips", drum.value(11), 1);
        Check.same("skips(0)", drum.skips(0), 1);
        drum.run(3);
        Check.same("all skips", drum.value(11), 1);
        drum.run(1);
        Check.same("all skips", drum.value(11), 2);
        drum.setPawl(4, 100);
        drum.run(4);
        Check.values(drum, 1, 1, 0);
        Check.same("all skips", drum.value(11), 2);
        Check.same("skips(1)", drum.skips(1), 0);
        drum.turn(7);
        drum.setPawl(1, 5000);
        Check.same("no cycle by a skip", drum.run(3), 0);
        Check.values(drum, 1, 7);
        Check.same("skips(7)", drum.skips(7), 3);
    }

    private static void promise9PawlOrder() {
        CamDrum drum = new CamDrum();
        drum.setPawl(1, 1050);
        drum.run(1);
        Check.values(drum, 1, 1);
        CamDrum full = new CamDrum();
        full.setAir(100, 500);
        full.setPawl(1, 101);
        full.run(1);
        Check.values(full, 1, 0);
        CamDrum moving = Check.drumOf("0:.x......;");
        moving.setPawl(1, 1050);
        moving.run(1);
        Check.values(moving, 1, 1);
        Check.same("air is used behind the going on", moving.value(5), 1010);
    }

    private static void promise9Air() {
        CamDrum drum = Check.drumOf("0:x.......;1:x.......;");
        drum.setAir(100, 0);
        drum.setCylinder(0, 2, 40, 0);
        drum.setCylinder(1, 2, 40, 0);
        drum.run(1);
        Check.outs(drum, 40, 10);
        Check.values(drum, 5, 0);
        Check.same("used by 0", drum.cylinder(0, 6), 80);
        Check.same("used by 1", drum.cylinder(1, 6), 20);
        Check.same("used by all", drum.value(14), 100);
        CamDrum divided = Check.drumOf("4:x.......;");
        divided.setAir(100, 0);
        divided.setCylinder(4, 9, 50, 0);
        divided.run(1);
        Check.outs(divided, 0, 0, 0, 0, 11);
        Check.values(divided, 5, 1);
        divided.run(1);
        Check.outs(divided, 0, 0, 0, 0, 11);
        divided.setAir(100, 8);
        divided.run(1);
        Check.outs(divided, 0, 0, 0, 0, 12);
        Check.values(divided, 5, 0);
    }

    private static void promise9Capacity() {
        CamDrum drum = new CamDrum();
        drum.setAir(1070, 50);
        drum.run(1);
        Check.values(drum, 5, 1050);
        Check.values(drum, 12, 1050, 0);
        drum.run(1);
        Check.values(drum, 5, 1070);
        Check.values(drum, 12, 1100, 30);
        CamDrum moving = Check.drumOf("0:x.......;");
        moving.setAir(1000, 50);
        moving.run(1);
        Check.values(moving, 5, 960);
        Check.values(moving, 12, 1050, 50, 40);
    }

    private static void promise9Guards() {
        CamDrum behind = Check.drumOf("0:xx......;1:xx......;");
        behind.setCylinder(0, 1, 50, 0);
        behind.setCylinder(1, 1, 50, 0);
        behind.addGuard(1, 0, 30);
        behind.run(1);
        Check.outs(behind, 50, 30);
        behind.run(1);
        Check.outs(behind, 100, 30);
        behind.removeGuard(0);
        behind.run(1);
        Check.outs(behind, 100, 80);

        CamDrum ahead = Check.drumOf("0:xx......;1:xx......;");
        ahead.setCylinder(0, 1, 50, 0);
        ahead.setCylinder(1, 1, 50, 0);
        ahead.addGuard(0, 1, 30);
        ahead.run(1);
        Check.outs(ahead, 50, 50);
        ahead.run(1);
        Check.outs(ahead, 50, 100);
        ahead.setCam(0, 0, false);
        ahead.run(1);
        Check.outs(ahead, 0, 100);
    }

    private static void promise9GuardBound() {
        CamDrum drum = Check.drumOf("0:xx......;1:xx......;");
        drum.setCylinder(0, 1, 30, 0);
        drum.setCylinder(1, 1, 50, 0);
        drum.addGuard(1, 0, 30);
        drum.run(1);
        Check.outs(drum, 30, 50);
        drum.run(1);
        Check.outs(drum, 60, 50);
        CamDrum free = Check.drumOf("0:xx......;1:xx......;");
        free.setCylinder(0, 1, 31, 0);
        free.setCylinder(1, 1, 20, 0);
        free.addGuard(1, 0, 30);
        free.run(3);
        Check.outs(free, 93, 30);
        Check.same("used no more than it moves", free.cylinder(1, 6), 30);
    }

    private static void promise9SeveralGuards() {
        CamDrum drum = Check.drumOf("0:xx......;1:xx......;2:xx......;");
        drum.setCylinder(0, 1, 50, 0);
        drum.setCylinder(1, 1, 25, 0);
        drum.setCylinder(2, 1, 50, 0);
        drum.addGuard(2, 0, 40);
        drum.addGuard(2, 1, 20);
        drum.addGuard(2, 3, 1);
        drum.addGuard(3, 0, 5);
        drum.run(1);
        Check.outs(drum, 50, 25, 20);
        drum.setCam(1, 0, false);
        drum.run(1);
        Check.outs(drum, 100, 0, 40);
    }

    private static void promise9Leaks() {
        CamDrum drum = Check.drumOf("0:x.......;1:x.......;");
        drum.setAir(100, 0);
        drum.setCylinder(0, 1, 50, 20);
        drum.setCylinder(1, 1, 50, 20);
        drum.run(1);
        Check.outs(drum, 50, 50);
        Check.same("leaks come behind all moves", drum.value(15), 0);
        drum.setAir(100, 30);
        drum.setCylinder(0, 1, 1, 20);
        drum.setCylinder(1, 1, 1, 20);
        drum.run(1);
        Check.outs(drum, 51, 51);
        Check.same("leaked by 0", drum.cylinder(0, 7), 20);
        Check.same("leaked by 1", drum.cylinder(1, 7), 8);
        Check.same("leaked by all", drum.value(15), 28);
        Check.same("tank", drum.value(5), 0);
        Check.same("a leak is no use", drum.value(14), 102);
        CamDrum full = Check.drumOf("3:xxxxxxxx;");
        full.setCylinder(3, 1, 50, 7);
        full.run(10);
        Check.same("a cylinder that is out leaks on", full.cylinder(3, 7), 70);
    }

    private static void promise9NoLeak() {
        CamDrum drum = Check.drumOf("0:x.......;1:x.......;");
        drum.setAir(100, 0);
        drum.setCylinder(0, 5, 19, 0);
        drum.setCylinder(1, 9, 50, 20);
        drum.run(1);
        Check.outs(drum, 19, 0);
        Check.values(drum, 5, 5);
        Check.same("what is in does not leak", drum.value(15), 0);
        CamDrum back = Check.drumOf("0:x.......;");
        back.setCylinder(0, 1, 10, 5);
        back.run(2);
        Check.same("leaked", back.cylinder(0, 7), 10);
        back.turn(1);
        back.run(1);
        Check.outs(back, 10);
        Check.same("without a cam there is no leak", back.cylinder(0, 7), 10);
    }

    private static void promise9Accounts() {
        CamDrum drum = Check.drumOf("0:xx......;1:.xxx....;2:x.x.x.x.;3:xxxxxxx.;4:....xxxx;");
        for (int c = 0; c < 5; c++) {
            drum.setCylinder(c, 1 + 2 * c, 50 - 9 * c, 4 * c);
        }
        drum.addGuard(3, 1, 20);
        drum.setAir(300, 50);
        int capacity = 150;
        for (int i = 0; i < 20; i++) {
            drum.run(22);
            drum.setAir(capacity + 37 * (i % 5), 20 + 10 * (i % 3));
            int used = 0;
            int leaked = 0;
            for (int c = 0; c < 5; c++) {
                used += drum.cylinder(c, 6);
                leaked += drum.cylinder(c, 7);
            }
            Check.same("used", drum.value(14), used);
            Check.same("leaked", drum.value(15), leaked);
            Check.same("made", drum.value(12), drum.value(5) + drum.value(13) + used + leaked);
        }
        Check.same("there were skips, leaks and air let off",
                drum.value(11) > 0 && drum.value(15) > 0 && drum.value(13) > 700, true);
    }

    private static void promise9Undo() {
        CamDrum drum = Check.drumOf("0:xx......;2:x.x.x.x.;");
        drum.setCylinder(2, 2, 20, 3);
        drum.setPawl(3, 1100);
        drum.run(5);
        long before = drum.digest();
        drum.run(77);
        Check.undone(drum, before, 4);
    }

    private static void promise9Wrong() {
        CamDrum drum = new CamDrum();
        Check.refusesArgument(drum, () -> drum.run(0));
        Check.refusesArgument(drum, () -> drum.run(-1));
        Check.refusesArgument(drum, () -> drum.run(501));
        Check.refusesArgument(drum, () -> drum.run(Integer.MAX_VALUE));
        Check.refusesArgument(drum, () -> drum.run(Integer.MIN_VALUE));
    }

    private static void promise9Limit() {
        CamDrum drum = new CamDrum();
        for (int i = 0; i < 199; i++) {
            drum.run(500);
        }
        drum.run(499);
        Check.same("ticks", drum.value(9), 99999);
        Check.refusesState(drum, () -> drum.run(2));
        Check.refusesArgument(drum, () -> drum.run(501));
        drum.run(1);
        Check.same("ticks", drum.value(9), 100000);
        Check.refusesState(drum, () -> drum.run(1));
        Check.refusesArgument(drum, () -> drum.run(0));
        Check.same("questions go on", drum.ticksToCycle(), 32);
        Check.same("questions go on", drum.leastCompressor(300), 0);
        drum.undo();
        drum.run(1);
        Check.same("ticks", drum.value(9), 100000);
    }
}
