/** The edges of promises 16 to 21. */
final class QuestionEdgeTests {
    private QuestionEdgeTests() {
    }

    static void run() {
        ticksToOut();
        ticksToCycle();
        leastCompressor();
        leastCompressorTicks();
        shortestDwell();
        shortestDwellBegin();
        shortestDwellEnd();
        repeats();
        useful();
        limitOfTicks();
    }

    /** The pawl tries in each tick, and the tank has its least air first in the tick of this number. */
    private static CamDrum goesOnAt(String tracks, int tick) {
        CamDrum drum = Check.drumOf(tracks);
        drum.setAir(9999, 1);
        drum.setPawl(1, 1000 + tick);
        return drum;
    }

    /** Cylinder 0 is out by 50 in the tick of this number, all the way in the next one. */
    private static CamDrum halfOutAt(int tick) {
        CamDrum drum = goesOnAt("0:.xx.....;", tick);
        drum.setCylinder(0, 1, 50, 0);
        return drum;
    }

    private static void ticksToOut() {
        Check.test("promise 16, ticksToOut: a cylinder is 0 to 4",
                () -> Twins.range(0, 4, Twins.INDEX, CamDrum::ticksToOut));
        Check.test("promise 16, ticksToOut: 0 if it is out all the way, 1 if it is out by 99", () -> {
            CamDrum drum = Check.rods(99, 100);
            Check.same("out by 99", drum.ticksToOut(0), 1);
            Check.same("out by 100", drum.ticksToOut(1), 0);
        });
        Check.test("promise 16, ticksToOut: 0 if it is out all the way and would move in", () -> {
            CamDrum drum = Check.rods(100);
            drum.setCam(0, 0, false);
            Check.same("ticksToOut(0)", drum.ticksToOut(0), 0);
        });
        Check.test("promise 16, ticksToOut: behind the last of 500 ticks, and behind the 501st", () -> {
            Check.same("500 ticks", halfOutAt(499).ticksToOut(0), 500);
            Check.same("501 ticks", halfOutAt(500).ticksToOut(0), CamDrum.NONE);
        });
        Check.test("promise 16, ticksToOut: NONE for ever, without cams", () ->
                Check.same("ticksToOut(4)", new CamDrum().ticksToOut(4), CamDrum.NONE));
        Check.test("promise 16, ticksToOut: NONE for one whose guard leaves it at 99", () -> {
            CamDrum drum = Check.rods(0, 100);
            drum.addGuard(0, 1, 99);
            drum.setPawl(1, 5000);
            drum.setAir(2000, 0);
            Check.same("ticksToOut(0)", drum.ticksToOut(0), CamDrum.NONE);
        });
        Check.test("promise 16, ticksToOut: it changes nothing", () -> {
            Twins.changesNothing(drum -> drum.ticksToOut(3));
            Twins.changesNothing(drum -> drum.ticksToOut(0));
        });
    }

    /** At the last step, from which the drum goes on in the tick of this number. */
    private static CamDrum cycleAt(int tick) {
        CamDrum drum = goesOnAt("", tick);
        drum.turn(7);
        return drum;
    }

    private static void ticksToCycle() {
        Check.test("promise 17, ticksToCycle: 1 or more, and never 0", () -> {
            CamDrum drum = new CamDrum();
            drum.run(31);
            Check.same("in the next tick", drum.ticksToCycle(), 1);
            drum.run(1);
            Check.same("behind it", drum.ticksToCycle(), 32);
        });
        Check.test("promise 17, ticksToCycle: at the last of 1000 ticks, and at the 1001st", () -> {
            Check.same("1000 ticks", cycleAt(1000).ticksToCycle(), 1000);
            Check.same("1001 ticks", cycleAt(1001).ticksToCycle(), CamDrum.NONE);
        });
        Check.test("promise 17, ticksToCycle: fewest steps and shortest dwell, most and longest", () -> {
            CamDrum few = Check.drumOf("n2;");
            few.setPawl(1, 0);
            Check.same("ticksToCycle()", few.ticksToCycle(), 2);
            CamDrum many = Check.drumOf("n16;");
            many.setPawl(20, 0);
            Check.same("ticksToCycle()", many.ticksToCycle(), 320);
        });
        Check.test("promise 17, ticksToCycle: a turn to step 0 is no cycle", () -> {
            CamDrum drum = new CamDrum();
            drum.turn(7);
            drum.turn(0);
            Check.same("ticksToCycle()", drum.ticksToCycle(), 32);
        });
        Check.test("promise 17, ticksToCycle: it changes nothing", () -> Twins.changesNothing(CamDrum::ticksToCycle));
    }

    private static CamDrum withPawl(int dwell, int least) {
        CamDrum drum = new CamDrum();
        drum.setAir(9999, 50);
        drum.setPawl(dwell, least);
        return drum;
    }

    private static void leastCompressor() {
        Check.test("promise 18, leastCompressor: ticks are 1 to 300",
                () -> Twins.range(1, 300, Twins.ARGUMENT, CamDrum::leastCompressor));
        Check.test("promise 18, leastCompressor: 0 is enough, and one more of least air needs 10", () -> {
            Check.same("least air 1000", withPawl(1, 1000).leastCompressor(1), 0);
            Check.same("least air 1001", withPawl(1, 1001).leastCompressor(1), 10);
        });
        Check.test("promise 18, leastCompressor: 10 is just enough, and one more needs 20", () -> {
            Check.same("least air 1010", withPawl(1, 1010).leastCompressor(1), 10);
            Check.same("least air 1011", withPawl(1, 1011).leastCompressor(1), 20);
        });
        Check.test("promise 18, leastCompressor: 490, 500, and none", () -> {
            Check.same("least air 1490", withPawl(1, 1490).leastCompressor(1), 490);
            Check.same("least air 1491", withPawl(1, 1491).leastCompressor(1), 500);
            Check.same("least air 1500", withPawl(1, 1500).leastCompressor(1), 500);
            Check.same("least air 1501", withPawl(1, 1501).leastCompressor(1), CamDrum.NONE);
        });
        Check.test("promise 18, leastCompressor: a tank that cannot hold the least air", () -> {
            CamDrum drum = new CamDrum();
            drum.setAir(1000, 0);
            drum.setPawl(1, 1000);
            Check.same("just full", drum.leastCompressor(300), 0);
            drum.setPawl(1, 1001);
            Check.same("one beyond it", drum.leastCompressor(300), CamDrum.NONE);
        });
        Check.test("promise 18, leastCompressor: an empty tank", () -> {
            CamDrum drum = Check.rods(0);
            drum.setAir(100, 0);
            drum.setCylinder(0, 2, 50, 0);
            drum.run(1);
            drum.setPawl(1, 10);
            Check.same("the tank", drum.value(5), 0);
            Check.same("10 for the first tick", drum.leastCompressor(1), 10);
            drum.setPawl(1, 0);
            Check.same("no air is needed", drum.leastCompressor(300), 0);
        });
        Check.test("promise 18, leastCompressor: it changes nothing", () -> {
            Twins.changesNothing(drum -> drum.leastCompressor(1));
            Twins.changesNothing(drum -> drum.leastCompressor(300));
        });
    }

    /** Without a compressor the tank is at 903 - 3 * t when the pawl tries in tick t, which 20 divides. */
    private static CamDrum emptying(int least) {
        CamDrum drum = Check.drumOf("0:xxxxxxxx;");
        drum.setCylinder(0, 1, 50, 3);
        drum.setPawl(20, least);
        return drum;
    }

    private static void leastCompressorTicks() {
        Check.test("promise 18, leastCompressor: a skip in the last of the ticks counts, one later does not", () -> {
            CamDrum drum = withPawl(20, 5000);
            Check.same("a tick ahead of the pawl's try", drum.leastCompressor(19), 0);
            Check.same("the tick of it", drum.leastCompressor(20), 200);
        });
        Check.test("promise 18, leastCompressor: the stand count of now counts", () -> {
            CamDrum drum = withPawl(20, 5000);
            drum.setAir(9999, 0);
            drum.run(19);
            drum.setPawl(20, 1500);
            Check.same("leastCompressor(1)", drum.leastCompressor(1), 500);
        });
        Check.test("promise 18, leastCompressor: a skip in tick 300 alone", () -> {
            Check.same("3 are there for 3", emptying(3).leastCompressor(300), 0);
            Check.same("3 are there for 4", emptying(4).leastCompressor(300), 10);
            Check.same("a tick ahead of it", emptying(4).leastCompressor(299), 0);
        });
    }

    /** The shortest dwell of a drum whose cylinder 0, of this speed, has these cams. */
    private static int dwellFor(String track, int speed) {
        CamDrum drum = Check.drumOf("0:" + track + ";");
        drum.setCylinder(0, 1, speed, 0);
        return drum.shortestDwell();
    }

    private static void shortestDwell() {
        Check.test("promise 19, shortestDwell: 1, the shortest, without cams",
                () -> Check.same("shortestDwell()", new CamDrum().shortestDwell(), 1));
        Check.test("promise 19, shortestDwell: 2 for two moves, where one does not do",
                () -> Check.same("shortestDwell()", dwellFor(".x......", 50), 2));
        Check.test("promise 19, shortestDwell: 20, the longest, and none where 20 do not do", () -> {
            Check.same("20 moves by 5", dwellFor(".x......", 5), 20);
            Check.same("25 moves by 4", dwellFor(".x......", 4), CamDrum.NONE);
        });
        Check.test("promise 19, shortestDwell: out by 100, not by 99", () -> {
            Check.same("3 moves by 33 make 99", dwellFor(".x......", 33), 4);
            Check.same("3 moves by 34 make 100", dwellFor(".x......", 34), 3);
        });
        Check.test("promise 19, shortestDwell: at step 0 the stand is shorter by one tick", () -> {
            Check.same("17 moves by 6", dwellFor("x.......", 6), 18);
            Check.same("20 moves by 5", dwellFor("x.......", 5), CamDrum.NONE);
        });
        Check.test("promise 19, shortestDwell: a cam at the next step, too, does not help the first", () ->
                Check.same("5 moves by 20, one tick shorter", dwellFor("xx......", 20), 6));
        Check.test("promise 19, shortestDwell: the going on to step 0 at the end counts, too", () -> {
            Check.same("20 moves by 5 at the last step", dwellFor(".......x", 5), 20);
            Check.same("25 moves by 4 at the last step", dwellFor(".......x", 4), CamDrum.NONE);
        });
        Check.test("promise 19, shortestDwell: each cylinder counts, the first and the last", () -> {
            CamDrum drum = Check.drumOf("0:.x......;4:.x......;");
            drum.setCylinder(0, 1, 50, 0);
            drum.setCylinder(4, 1, 20, 0);
            Check.same("5 moves of the last", drum.shortestDwell(), 5);
            drum.setCylinder(0, 1, 10, 0);
            Check.same("10 moves of the first", drum.shortestDwell(), 10);
        });
        Check.test("promise 19, shortestDwell: it changes nothing", () -> Twins.changesNothing(CamDrum::shortestDwell));
    }

    private static void shortestDwellBegin() {
        Check.test("promise 19, shortestDwell: all cylinders are in, by 0 and not by 1", () -> {
            Check.same("4 moves by 33 from 0, 3 from 1", dwellFor("x.......", 33), 5);
            Check.same("3 moves by 34 from 0", dwellFor("x.......", 34), 4);
        });
        Check.test("promise 19, shortestDwell: rods that are out all the way now begin in", () -> {
            CamDrum drum = Check.rods(100);
            Check.same("2 moves by 50 from 0", drum.shortestDwell(), 3);
        });
        Check.test("promise 19, shortestDwell: step and stand count of now do not matter", () -> {
            CamDrum drum = Check.drumOf("0:x.......;");
            drum.setCylinder(0, 1, 10, 0);
            Check.same("ahead of it", drum.shortestDwell(), 11);
            drum.run(3);
            Check.values(drum, 1, 0, 3);
            Check.same("at step 0 with the stand count 3", drum.shortestDwell(), 11);
            drum.turn(7);
            drum.run(3);
            Check.same("at step 7 with the stand count 3", drum.shortestDwell(), 11);
        });
        Check.test("promise 19, shortestDwell: the tank is as it is, just enough and one too little", () -> {
            CamDrum drum = Check.rods(0);
            drum.setCylinder(0, 2, 50, 0);
            drum.setAir(200, 0);
            drum.setAir(2000, 0);
            Check.same("200 are enough for 2 * 100", drum.shortestDwell(), 3);
            drum.setAir(199, 0);
            drum.setAir(2000, 0);
            Check.same("199 are not", drum.shortestDwell(), CamDrum.NONE);
        });
        Check.test("promise 19, shortestDwell: a guard that leaves a rod at 99", () -> {
            CamDrum drum = Check.drumOf("0:.x......;1:.x......;");
            drum.setCylinder(0, 1, 50, 0);
            drum.setCylinder(1, 1, 25, 0);
            Check.same("4 moves by 25", drum.shortestDwell(), 4);
            drum.addGuard(1, 0, 99);
            Check.same("never out all the way", drum.shortestDwell(), CamDrum.NONE);
        });
    }

    private static void shortestDwellEnd() {
        Check.test("promise 19, shortestDwell: a cycle of 1000 ticks does, one of 1001 does not", () -> {
            // From step 0 on there are 8 goings on, a tick each, the first when the tank has its least air.
            Check.same("1000 ticks", goesOnAt("", 993).shortestDwell(), 1);
            Check.same("1001 ticks", goesOnAt("", 994).shortestDwell(), CamDrum.NONE);
        });
        Check.test("promise 19, shortestDwell: a pawl that skips for ever does not do", () -> {
            CamDrum drum = new CamDrum();
            drum.setPawl(4, 5000);
            Check.same("shortestDwell()", drum.shortestDwell(), CamDrum.NONE);
        });
        Check.test("promise 19, shortestDwell: a rod that is not out at a skip does not matter", () -> {
            CamDrum drum = goesOnAt("0:x.......;", 2);
            drum.setCylinder(0, 1, 50, 0);
            Check.same("in at the skip of tick 1, out all the way when it goes on", drum.shortestDwell(), 1);
            drum.setPawl(1, 1001);
            Check.same("with a dwell of 1 it would go on in tick 1", drum.shortestDwell(), 2);
        });
    }

    /** A cycle of two steps, a tick each: from the tick of this number on the drum goes on in each tick. */
    private static CamDrum roundFrom(int tick) {
        CamDrum drum = goesOnAt("n2;", tick);
        drum.setAir(1000 + tick, 1);
        return drum;
    }

    /** This cylinder moves out by 1 a tick, a cycle is two ticks; the tank is full behind each tick without a move. */
    private static CamDrum outBy(int cylinder, int ticks) {
        CamDrum drum = Check.drumOf("n2;" + cylinder + ":xx;");
        drum.setPawl(1, 0);
        drum.setCylinder(cylinder, 1, 1, 0);
        drum.setAir(1000, 500);
        drum.run(ticks);
        Check.same("how far out", drum.cylinder(cylinder, 0), ticks);
        return drum;
    }

    /**
     * When the drum goes on at last, in the tick of this number and in each tick from there on, it is behind each two
     * ticks as it was ahead of them: cylinder 0 has moved in by 1 and out again, cylinder 1 the other way round.
     */
    private static CamDrum asBeforeFrom(int tick) {
        CamDrum drum = Check.drumOf("n2;0:x.;1:.x;");
        drum.setPawl(1, 5000);
        drum.setAir(9999, 0);
        drum.setCylinder(0, 1, 50, 0);
        drum.run(2);
        Check.outs(drum, 100, 0);
        // At step 0 the compressor makes 2 and the leak takes 1: the pawl's try in tick t finds 901 + t.
        drum.setCylinder(0, 1, 1, 1);
        drum.setCylinder(1, 2, 1, 0);
        drum.setAir(9999, 2);
        drum.setPawl(1, 901 + tick);
        return drum;
    }

    private static void repeats() {
        Check.test("promise 20, repeats: two cycles in just 2000 ticks, and in 2001", () -> {
            Check.same("2000 ticks", roundFrom(1997).repeats(), true);
            Check.same("2001 ticks", roundFrom(1998).repeats(), false);
        });
        Check.test("promise 20, repeats: one cycle in 2000 ticks, and none", () -> {
            Check.same("the first at 2000", roundFrom(1999).repeats(), false);
            Check.same("the first at 2001", roundFrom(2000).repeats(), false);
            Check.same("none", roundFrom(3999).repeats(), false);
        });
        Check.test("promise 20, repeats: as at the end of the 2000 ticks, but over behind them", () -> {
            Check.same("cycles over at 1998 and 2000", asBeforeFrom(1997).repeats(), true);
            Check.same("at 1999 and 2001", asBeforeFrom(1998).repeats(), false);
            Check.same("at 2002 and 2004", asBeforeFrom(2001).repeats(), false);
        });
        Check.test("promise 20, repeats: each cylinder, out by 98 and then by 100, with the same tank", () -> {
            for (int c = 0; c < 5; c++) {
                Check.same("repeats()", outBy(c, 96).repeats(), false);
            }
        });
        Check.test("promise 20, repeats: a tank one below and then full, with the same cylinders", () ->
                Check.same("repeats()", outBy(4, 98).repeats(), false));
        Check.test("promise 20, repeats: cylinders all the way out and a full tank", () ->
                Check.same("repeats()", outBy(4, 100).repeats(), true));
        Check.test("promise 20, repeats: a tank that is two fuller a cycle later", () -> {
            CamDrum drum = Check.drumOf("n2;");
            drum.setPawl(1, 0);
            drum.setAir(1004, 1);
            Check.same("1002 and 1004", drum.repeats(), false);
            drum.setAir(1003, 1);
            Check.same("1002 and 1003", drum.repeats(), false);
            drum.setAir(1002, 1);
            Check.same("1002 and 1002", drum.repeats(), true);
        });
        Check.test("promise 20, repeats: an empty tank that stays empty", () -> {
            CamDrum drum = Check.rods(0);
            drum.setAir(100, 0);
            drum.setCylinder(0, 2, 50, 0);
            drum.run(1);
            drum.setPawl(1, 0);
            Check.same("the tank", drum.value(5), 0);
            Check.same("repeats()", drum.repeats(), true);
        });
        Check.test("promise 20, repeats: it changes nothing", () -> Twins.changesNothing(CamDrum::repeats));
    }

    private static void useful() {
        Check.test("promise 21, useful: 0 when no air was used",
                () -> Check.same("useful()", new CamDrum().useful(), 0.0));
        Check.test("promise 21, useful: 1 when all air made was used", () -> {
            CamDrum drum = Check.drumOf("0:x.......;1:x.......;");
            drum.setAir(2000, 0);
            drum.setPawl(20, 0);
            drum.setCylinder(0, 9, 50, 0);
            drum.setCylinder(1, 1, 50, 0);
            drum.run(2);
            Check.same("useful()", drum.useful(), 1.0);
        });
        Check.test("promise 21, useful: the least share, not rounded down", () -> {
            CamDrum drum = Check.drumOf("0:x.......;");
            drum.setAir(2000, 0);
            drum.setCylinder(0, 1, 1, 20);
            drum.run(1);
            Check.same("1 of 1000", drum.useful(), 1.0 / 1000.0);
        });
        Check.test("promise 21, useful: air that was let off at once counts as made", () -> {
            CamDrum drum = Check.drumOf("0:x.......;");
            drum.setAir(1000, 500);
            drum.setCylinder(0, 1, 50, 0);
            drum.run(1);
            Check.same("50 of 1500", drum.useful(), 50.0 / 1500.0);
        });
        Check.test("promise 21, useful: it changes nothing", () -> Twins.changesNothing(CamDrum::useful));
    }

    private static void limitOfTicks() {
        Check.test("promise 16: the limit of ticks does not matter for questions", () -> {
            CamDrum drum = Check.drumOf("0:x.......;");
            drum.setAir(1000, 100);
            for (int i = 0; i < 200; i++) {
                drum.run(500);
            }
            drum.turn(0);
            drum.setCylinder(0, 1, 50, 0);
            Check.same("value(9)", drum.value(9), 100000);
            Check.same("ticksToOut(0)", drum.ticksToOut(0), 2);
            Check.same("ticksToOut(1)", drum.ticksToOut(1), CamDrum.NONE);
            Check.same("ticksToCycle()", drum.ticksToCycle(), 32);
            Check.same("leastCompressor(3)", drum.leastCompressor(3), 0);
            Check.same("shortestDwell()", drum.shortestDwell(), 3);
            Check.same("repeats()", drum.repeats(), true);
            Check.same("value(9) behind the questions", drum.value(9), 100000);
        });
    }
}
