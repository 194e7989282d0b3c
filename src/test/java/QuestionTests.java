/** Promises 16 to 21: the what-if questions. */
final class QuestionTests {
    private QuestionTests() {
    }

    static void run() {
        Check.test("promise 16: ticksToOut", QuestionTests::promise16);
        Check.test("promise 16: ticksToOut, 500 ticks and 501", QuestionTests::promise16Limit);
        Check.test("promise 16: ticksToOut, wrong", QuestionTests::promise16Wrong);
        Check.test("promise 17: ticksToCycle", QuestionTests::promise17);
        Check.test("promise 17: ticksToCycle, 1000 ticks and 1001", QuestionTests::promise17Limit);
        Check.test("promise 18: leastCompressor", QuestionTests::promise18);
        Check.test("promise 18: leastCompressor, wrong", QuestionTests::promise18Wrong);
        Check.test("promise 19: shortestDwell", QuestionTests::promise19);
        Check.test("promise 19: shortestDwell, how the cycle begins", QuestionTests::promise19Begin);
        Check.test("promise 19: shortestDwell, skips", QuestionTests::promise19Skips);
        Check.test("promise 19: shortestDwell, 1000 ticks and 1001", QuestionTests::promise19Limit);
        Check.test("promise 20: repeats", QuestionTests::promise20);
        Check.test("promise 20: repeats, 2000 ticks and more", QuestionTests::promise20Limit);
        Check.test("promise 21: useful", QuestionTests::promise21);
        Check.test("promises 16 to 21: questions change nothing", QuestionTests::promises16To21);
    }

    private static void promise16() {
        CamDrum drum = Check.drumOf("0:xx......;1:.x......;2:x.......;");
        drum.setCylinder(1, 1, 25, 0);
        Check.same("ticksToOut(0)", drum.ticksToOut(0), 5);
        Check.same("ticksToOut(1)", drum.ticksToOut(1), 7);
        Check.same("ticksToOut(2)", drum.ticksToOut(2), CamDrum.NONE);
        Check.same("ticksToOut(3)", drum.ticksToOut(3), CamDrum.NONE);
        drum.run(4);
        Check.same("ticksToOut(0)", drum.ticksToOut(0), 1);
        drum.run(1);
        Check.same("ticksToOut(0)", drum.ticksToOut(0), 0);
        drum.turn(7);
        Check.same("out all the way at step 7, too", drum.ticksToOut(0), 0);
    }

    /** Cylinder 1 takes air out of the tank until it is empty; leakAtEnd tells whether the last of it leaks. */
    private static CamDrum emptied(boolean leakAtEnd) {
        CamDrum drum = Check.drumOf("1:x.......;");
        drum.setAir(100, 0);
        drum.setCylinder(1, 1, 50, 0);
        drum.run(1);
        drum.setCylinder(1, 1, leakAtEnd ? 49 : 50, leakAtEnd ? 1 : 0);
        drum.run(1);
        Check.same("tank", drum.value(5), 0);
        drum.setCylinder(1, 1, 50, 0);
        drum.setPawl(4, 0);
        drum.setAir(100, 1);
        drum.setCylinder(0, 5, 1, 0);
        Check.tell(drum, "0:xxxxxxxx;1:xxxxxxxx;");
        drum.parse();
        return drum;
    }

    private static void promise16Limit() {
        CamDrum drum = emptied(false);
        Check.same("500 ticks", drum.ticksToOut(0), 500);
        CamDrum slower = emptied(true);
        Check.outs(slower, 0, 99);
        Check.same("501 ticks", slower.ticksToOut(0), CamDrum.NONE);
        slower.run(1);
        Check.same("500 ticks", slower.ticksToOut(0), 500);
        slower.run(499);
        Check.same("1 tick", slower.ticksToOut(0), 1);
    }

    private static void promise16Wrong() {
        CamDrum drum = new CamDrum();
        Check.refusesIndex(drum, () -> drum.ticksToOut(-1));
        Check.refusesIndex(drum, () -> drum.ticksToOut(5));
    }

    private static void promise17() {
        CamDrum drum = new CamDrum();
        Check.same("ticksToCycle()", drum.ticksToCycle(), 32);
        drum.run(31);
        Check.same("ticksToCycle()", drum.ticksToCycle(), 1);
        drum.run(1);
        Check.same("ticksToCycle()", drum.ticksToCycle(), 32);
        drum.turn(7);
        Check.same("ticksToCycle()", drum.ticksToCycle(), 4);
        drum.setPawl(4, 5000);
        Check.same("the pawl skips for ever", drum.ticksToCycle(), CamDrum.NONE);
    }

    /** The pawl goes on for the first time when the tank has its least air, in a tick that 20 divides. */
    private static CamDrum slow(int least) {
        CamDrum drum = Check.drumOf("n16;");
        drum.setAir(9999, 1);
        drum.setPawl(20, least);
        return drum;
    }

    private static void promise17Limit() {
        Check.same("1000 ticks", slow(1700).ticksToCycle(), 1000);
        CamDrum slower = slow(1701);
        Check.same("1020 ticks", slower.ticksToCycle(), CamDrum.NONE);
        slower.run(19);
        Check.same("1001 ticks", slower.ticksToCycle(), CamDrum.NONE);
        slower.run(1);
        Check.same("1000 ticks", slower.ticksToCycle(), 1000);
    }

    private static void promise18() {
        CamDrum drum = new CamDrum();
        drum.setPawl(4, 1200);
        Check.same("1000 + 4 * 50", drum.leastCompressor(4), 50);
        Check.same("no try of the pawl yet", drum.leastCompressor(3), 0);
        drum.setPawl(4, 1201);
        Check.same("1000 + 4 * 60", drum.leastCompressor(4), 60);
        Check.same("the skip at tick 4 alone", drum.leastCompressor(300), 60);
        drum.setPawl(4, 2001);
        Check.same("the capacity", drum.leastCompressor(4), CamDrum.NONE);
        drum.setAir(9999, 50);
        drum.setPawl(4, 3000);
        Check.same("1000 + 4 * 500", drum.leastCompressor(4), 500);
        drum.setPawl(4, 3001);
        Check.same("more than there is", drum.leastCompressor(4), CamDrum.NONE);
        Check.same("the compressor stays", drum.value(7), 50);
        drum.setPawl(20, 1000);
        Check.same("no more than the air that is there", drum.leastCompressor(300), 0);
        CamDrum using = Check.drumOf("0:xxxxxxxx;");
        using.setCylinder(0, 1, 1, 20);
        using.setPawl(1, 1000);
        Check.same("the pawl is ahead of the moves", using.leastCompressor(1), 0);
        Check.same("2 * 20 for 21", using.leastCompressor(2), 20);
        Check.same("21 * 20 for 20 * 21", using.leastCompressor(21), 20);
        Check.same("22 * 20 are too little for 21 * 21", using.leastCompressor(22), 30);
    }

    private static void promise18Wrong() {
        CamDrum drum = new CamDrum();
        Check.refusesArgument(drum, () -> drum.leastCompressor(0));
        Check.refusesArgument(drum, () -> drum.leastCompressor(-5));
        Check.refusesArgument(drum, () -> drum.leastCompressor(301));
        Check.same("300 ticks", drum.leastCompressor(300), 0);
        Check.same("1 tick", drum.leastCompressor(1), 0);
    }

    private static void promise19() {
        Check.same("no cams", new CamDrum().shortestDwell(), 1);
        Check.same("5 moves at step 1", Check.drumOf("0:.x......;").shortestDwell(), 5);
        Check.same("5 moves at step 0, one tick shorter", Check.drumOf("0:x.......;").shortestDwell(), 6);
        Check.same("5 moves at the last step", Check.drumOf("4:.......x;").shortestDwell(), 5);
        Check.same("the longest counts", Check.drumOf("0:x.......;1:..x.....;").shortestDwell(), 6);
        CamDrum slow = Check.drumOf("3:.x......;");
        slow.setCylinder(3, 1, 5, 0);
        Check.same("20 moves", slow.shortestDwell(), 20);
        Check.tell(slow, "3:x.......;");
        slow.parse();
        Check.same("20 moves at step 0", slow.shortestDwell(), CamDrum.NONE);
        CamDrum quick = Check.drumOf("0:.x......;");
        quick.setCylinder(0, 1, 33, 0);
        quick.run(4);
        Check.same("4 moves, as 3 make 99", quick.shortestDwell(), 4);
        CamDrum poor = Check.drumOf("0:.x......;");
        poor.setPawl(4, 0);
        poor.setAir(100, 10);
        Check.same("3 moves by 20, 8 moves by 5", poor.shortestDwell(), 11);
    }

    private static void promise19Begin() {
        CamDrum drum = Check.drumOf("0:.x......;2:...x....;");
        drum.setCylinder(2, 1, 10, 0);
        drum.run(14);
        Check.same("it stands elsewhere now", drum.value(1), 3);
        Check.same("the cycle begins at step 0", drum.shortestDwell(), 10);
        CamDrum out = Check.drumOf("0:xx......;");
        out.run(7);
        out.turn(0);
        out.run(3);
        Check.outs(out, 100);
        Check.values(out, 1, 0, 3);
        Check.same("all cylinders are in, the stand count is 0", out.shortestDwell(), 6);
        out.setPawl(20, 0);
        Check.same("the dwell now does not matter", out.shortestDwell(), 6);
    }

    private static void promise19Skips() {
        CamDrum drum = Check.drumOf("0:.x......;");
        drum.setCylinder(0, 9, 20, 0);
        drum.setPawl(4, 1100);
        Check.same("a skip gives time", drum.shortestDwell(), 1);
        drum.setPawl(4, 0);
        Check.same("without a skip", drum.shortestDwell(), 5);
    }

    private static void promise19Limit() {
        CamDrum drum = new CamDrum();
        drum.setAir(9999, 1);
        drum.setPawl(4, 1993);
        Check.same("1000 ticks", drum.shortestDwell(), 1);
        drum.setPawl(4, 1994);
        Check.same("1001 ticks", drum.shortestDwell(), CamDrum.NONE);
    }

    private static void promise20() {
        CamDrum drum = new CamDrum();
        Check.same("the tank is full both times", drum.repeats(), true);
        drum.setAir(2000, 10);
        Check.same("the tank fills still", drum.repeats(), false);
        CamDrum moving = Check.drumOf("0:xxxxxxxx;");
        moving.setCylinder(0, 1, 1, 0);
        moving.setAir(1000, 50);
        Check.same("the cylinder is further out", moving.repeats(), false);
        moving.run(95);
        Check.same("all the way behind one more cycle", moving.repeats(), false);
        moving.run(1);
        Check.same("all the way now", moving.repeats(), true);
        CamDrum round = Check.drumOf("0:x.......;4:....x...;");
        round.setAir(1000, 50);
        round.run(200);
        Check.same("it moves, and repeats", round.repeats(), true);
    }

    /** The tank is full when it has the least air: from then on all is as it was a cycle ago. */
    private static CamDrum filling(int least) {
        CamDrum drum = Check.drumOf("n16;");
        drum.setAir(least, 1);
        drum.setPawl(20, least);
        return drum;
    }

    private static void promise20Limit() {
        Check.same("2000 ticks", filling(2380).repeats(), true);
        CamDrum slower = filling(2381);
        Check.same("2020 ticks", slower.repeats(), false);
        slower.run(19);
        Check.same("2001 ticks", slower.repeats(), false);
        slower.run(1);
        Check.same("2000 ticks", slower.repeats(), true);
        CamDrum never = new CamDrum();
        never.setAir(1000, 50);
        never.setPawl(1, 5000);
        Check.same("no cycle at all", never.repeats(), false);
    }

    private static void promise21() {
        CamDrum drum = Check.drumOf("0:x.......;3:x.......;");
        Check.same("nothing is used yet", drum.useful(), 0.0);
        drum.setCylinder(3, 1, 20, 9);
        drum.run(1);
        Check.same("40 + 20 of 1050", drum.useful(), 60.0 / 1050.0);
        drum.run(2);
        Check.same("180 of 1150", drum.useful(), 180.0 / 1150.0);
    }

    private static void promises16To21() {
        CamDrum drum = Check.drumOf("0:xx......;1:.xx.....;2:....xxx.;");
        drum.setCylinder(1, 5, 33, 7);
        drum.addGuard(1, 0, 60);
        drum.run(13);
        long before = drum.digest();
        drum.ticksToOut(2);
        drum.ticksToCycle();
        drum.leastCompressor(300);
        drum.shortestDwell();
        drum.repeats();
        drum.useful();
        Check.same("digest()", drum.digest(), before);
        Check.same("questions are no states to undo", drum.undo(), 3);
    }
}
