/** The edges of promise 9 and of the terms that it stands on: Drum, Cylinders, Air, Guards and the steps of a tick. */
final class TickEdgeTests {
    private TickEdgeTests() {
    }

    static void run() {
        run9();
        limitOfTicks();
        drumGoesOn();
        pawlSkips();
        firstStand();
        rods();
        tank();
        emptyTank();
        airForMoves();
        guardBounds();
        guardsAtThisMoment();
        leaks();
        order();
    }

    private static void run9() {
        Check.test("promise 9, run: ticks are 1 to 500", () -> Twins.range(1, 500, Twins.ARGUMENT, CamDrum::run));
        Check.test("promise 9, run: one tick and 500 are counted", () -> {
            CamDrum drum = new CamDrum();
            drum.run(1);
            Check.same("value(9)", drum.value(9), 1);
            drum.run(500);
            Check.same("value(9)", drum.value(9), 501);
        });
        Check.test("promise 9, run: no cycle, just one, and only those of this run", () -> {
            CamDrum drum = new CamDrum();
            Check.same("one tick too few", drum.run(31), 0);
            Check.same("the tick of the cycle", drum.run(1), 1);
            Check.same("one tick too few for the second", drum.run(31), 0);
            Check.same("the tick of the second", drum.run(1), 1);
            Check.same("value(10)", drum.value(10), 2);
        });
        Check.test("promise 9, run: 2 steps and a dwell of 1 make the most cycles", () -> {
            CamDrum drum = Check.drumOf("n2;");
            drum.setPawl(1, 0);
            Check.same("run(500)", drum.run(500), 250);
        });
        Check.test("promise 9, run: undoable", () -> {
            Twins.undoable(drum -> drum.run(1));
            Twins.undoable(drum -> drum.run(500));
        });
    }

    private static CamDrum withTicks(int ticks) {
        CamDrum drum = new CamDrum();
        int left = ticks;
        while (left > 0) {
            int now = Math.min(left, 500);
            drum.run(now);
            left -= now;
        }
        return drum;
    }

    private static void limitOfTicks() {
        Check.test("promise 9, run: 100000 ticks, and not one more", () -> {
            CamDrum drum = withTicks(99999);
            drum.run(1);
            Check.same("value(9)", drum.value(9), 100000);
            Twins.refusedOn(() -> withTicks(99999), Twins.STATE, it -> it.run(2));
            Twins.refusedOn(() -> withTicks(100000), Twins.STATE, it -> it.run(1));
        });
        Check.test("promise 9, run: 500 ticks that just fit, and one too many of them", () -> {
            Twins.takenOn(() -> withTicks(99500), drum -> drum.run(500));
            Twins.takenOn(() -> withTicks(99501), drum -> drum.run(499));
            Twins.refusedOn(() -> withTicks(99501), Twins.STATE, drum -> drum.run(500));
        });
        Check.test("promise 9, run: ticks out of range are listed ahead of too many ticks", () -> {
            Twins.refusedOn(() -> withTicks(100000), Twins.ARGUMENT, drum -> drum.run(501));
            Twins.refusedOn(() -> withTicks(100000), Twins.ARGUMENT, drum -> drum.run(0));
            Twins.refusedOn(() -> withTicks(100000), Twins.ARGUMENT, drum -> drum.run(Integer.MAX_VALUE));
        });
        Check.test("promise 9, run: behind undo() the ticks fit again", () -> {
            CamDrum drum = withTicks(100000);
            drum.undo();
            drum.run(500);
            Check.same("value(9)", drum.value(9), 100000);
        });
    }

    /** From step 0 once round, a tick a step. */
    private static void once(int steps) {
        CamDrum drum = Check.drumOf("n" + steps + ";");
        drum.setPawl(1, 0);
        Check.same("no cycle on the way to the last step", drum.run(steps - 1), 0);
        Check.values(drum, 0, steps, steps - 1, 0);
        Check.same("value(10)", drum.value(10), 0);
        Check.same("the cycle that is over by step 0", drum.run(1), 1);
        Check.values(drum, 0, steps, 0, 0);
        Check.same("value(10)", drum.value(10), 1);
    }

    private static void drumGoesOn() {
        Check.test("terms, A tick 2: from the last step to step 0, a cycle is over (2, 8, 16 steps)", () -> {
            once(2);
            once(8);
            once(16);
        });
        Check.test("terms, Drum: a dwell of 1, a step each tick", () -> {
            CamDrum drum = new CamDrum();
            drum.setPawl(1, 0);
            for (int step = 1; step < 8; step++) {
                drum.run(1);
                Check.values(drum, 1, step, 0);
            }
        });
        Check.test("terms, Drum: a dwell of 20, nineteen ticks at a step and then the next", () -> {
            CamDrum drum = new CamDrum();
            drum.setPawl(20, 0);
            drum.run(19);
            Check.values(drum, 1, 0, 19);
            drum.run(1);
            Check.values(drum, 1, 1, 0);
        });
        Check.test("terms, A tick 2: the stand count one below the dwell, at it, and beyond it", () -> {
            CamDrum below = standing();
            below.setPawl(5, 0);
            below.run(1);
            Check.values(below, 1, 0, 4);
            CamDrum at = standing();
            at.setPawl(4, 0);
            at.run(1);
            Check.values(at, 1, 1, 0);
            CamDrum beyond = standing();
            beyond.setPawl(1, 0);
            beyond.run(1);
            Check.values(beyond, 1, 1, 0);
        });
        Check.test("terms, A tick 2: what follows in the tick is at the new step", () -> {
            CamDrum drum = Check.drumOf("0:x.......;1:.x......;");
            drum.run(4);
            Check.outs(drum, 40, 20);
            Check.same("chart(1, 0)", drum.chart(1, 0), 0);
            Check.same("chart(1, 1)", drum.chart(1, 1), 20);
        });
        Check.test("terms, A tick 2: at the wrap-around what follows is at step 0", () -> {
            CamDrum drum = Check.drumOf("0:x.......;1:.......x;");
            drum.turn(7);
            drum.run(4);
            Check.outs(drum, 20, 40);
            Check.same("chart(0, 0)", drum.chart(0, 0), 20);
        });
    }

    /** The stand count is 3. */
    private static CamDrum standing() {
        CamDrum drum = new CamDrum();
        drum.run(3);
        Check.values(drum, 1, 0, 3);
        return drum;
    }

    private static CamDrum withLeast(int least) {
        CamDrum drum = Check.drumOf("2:x.......;");
        drum.setPawl(1, least);
        drum.run(1);
        return drum;
    }

    private static void pawlSkips() {
        Check.test("terms, A tick 2: a tank of just the least air goes on, one below it skips", () -> {
            Check.values(withLeast(1050), 1, 1, 0);
            Check.values(withLeast(1051), 1, 0, 0);
        });
        Check.test("terms, A tick 2: a skip makes the stand count 0 and counts once", () -> {
            CamDrum drum = new CamDrum();
            drum.setPawl(20, 5000);
            drum.run(19);
            Check.values(drum, 1, 0, 19);
            Check.same("value(11)", drum.value(11), 0);
            drum.run(1);
            Check.values(drum, 1, 0, 0);
            Check.same("value(11)", drum.value(11), 1);
            drum.run(19);
            Check.same("value(11)", drum.value(11), 1);
        });
        Check.test("terms, A tick 2: behind a skip what follows is at the step where the drum stays", () -> {
            CamDrum drum = withLeast(1051);
            Check.outs(drum, 0, 0, 20);
            Check.same("chart(2, 0)", drum.chart(2, 0), 20);
            Check.same("chart(2, 1)", drum.chart(2, 1), CamDrum.NONE);
        });
        Check.test("terms, A tick 2: a skip at the last step, or at step 0, ends no cycle", () -> {
            CamDrum drum = new CamDrum();
            drum.setPawl(1, 5000);
            Check.same("at step 0", drum.run(1), 0);
            drum.turn(7);
            Check.same("at step 7", drum.run(1), 0);
            Check.values(drum, 10, 0, 2);
            Check.values(drum, 1, 7, 0);
        });
        Check.test("terms, Air: the least air is 0 to 5000; 5000 in the tank is enough, 4999 is not", () -> {
            CamDrum enough = new CamDrum();
            enough.setAir(5000, 500);
            enough.setPawl(8, 5000);
            enough.run(8);
            Check.values(enough, 1, 1, 0);
            CamDrum little = new CamDrum();
            little.setAir(4999, 500);
            little.setPawl(8, 5000);
            little.run(8);
            Check.values(little, 1, 0, 0);
        });
    }

    /** How far cylinder 4, of speed 1, comes out while the drum stands at the step. */
    private static void stands(CamDrum drum, int step, int ticks) {
        drum.setCylinder(4, 1, 1, 0);
        drum.run(ticks);
        Check.same("chart(4, " + step + ")", drum.chart(4, step), ticks);
        drum.run(1);
        Check.same("chart(4, " + step + ") when the drum has gone on", drum.chart(4, step), ticks);
        Check.same("the step behind it", drum.value(1), step + 1);
    }

    private static void firstStand() {
        Check.test("terms, A tick 2: at the beginning the stand is shorter by one tick",
                () -> stands(Check.drumOf("4:x.......;"), 0, 3));
        Check.test("terms, A tick 2: behind turn() the stand is shorter by one tick", () -> {
            CamDrum drum = Check.drumOf("4:..x.....;");
            drum.turn(2);
            stands(drum, 2, 3);
        });
        Check.test("terms, A tick 2: behind parse() the stand is shorter by one tick", () -> {
            CamDrum drum = new CamDrum();
            drum.run(6);
            Check.tell(drum, "4:x.......;");
            drum.parse();
            stands(drum, 0, 3);
        });
        Check.test("terms, A tick 2: a stand to which the drum has gone on is as long as the dwell", () -> {
            CamDrum drum = Check.drumOf("4:..x.....;");
            drum.run(7);
            stands(drum, 2, 4);
        });
        Check.test("terms, A tick 2: the second stand at step 0 is as long as the dwell", () -> {
            CamDrum drum = Check.drumOf("4:x.......;");
            drum.run(31);
            stands(drum, 0, 4);
        });
    }

    private static void outsOneByOne(CamDrum drum, int... due) {
        for (int out : due) {
            drum.run(1);
            Check.same("how far out", drum.cylinder(0, 0), out);
        }
    }

    private static void rods() {
        Check.test("terms, Cylinders: a rod is not out beyond 100", () -> {
            CamDrum drum = Check.rods(0);
            drum.setCylinder(0, 1, 33, 0);
            outsOneByOne(drum, 33, 66, 99, 100, 100);
            Check.same("the air for it", drum.cylinder(0, 6), 100);
        });
        Check.test("terms, Cylinders: a rod that comes to just 100, and stays there", () -> {
            CamDrum drum = Check.rods(0);
            drum.setCylinder(0, 1, 50, 0);
            outsOneByOne(drum, 50, 100, 100);
            Check.same("the air for it", drum.cylinder(0, 6), 100);
        });
        Check.test("terms, Cylinders: a rod is not in below 0", () -> {
            CamDrum drum = Check.rods(100);
            drum.setCam(0, 0, false);
            drum.setCylinder(0, 1, 33, 0);
            outsOneByOne(drum, 67, 34, 1, 0, 0);
        });
        Check.test("terms, Cylinders: a rod that comes to just 0, and stays there", () -> {
            CamDrum drum = Check.rods(100);
            drum.setCam(0, 0, false);
            outsOneByOne(drum, 50, 0, 0);
        });
        Check.test("terms, Cylinders: the least speed and the greatest, out and in", () -> {
            CamDrum drum = Check.rods(0);
            drum.setCylinder(0, 1, 1, 0);
            outsOneByOne(drum, 1);
            drum.setCylinder(0, 1, 50, 0);
            outsOneByOne(drum, 51);
            drum.setCam(0, 0, false);
            drum.setCylinder(0, 1, 1, 0);
            outsOneByOne(drum, 50);
            drum.setCylinder(0, 1, 50, 0);
            outsOneByOne(drum, 0);
        });
        Check.test("terms, Cylinders: the least size and the greatest", () -> {
            CamDrum drum = Check.rods(0);
            drum.setCylinder(0, 1, 7, 0);
            drum.run(1);
            Check.same("7 by size 1", drum.value(14), 7);
            drum.setCylinder(0, 9, 7, 0);
            drum.run(1);
            Check.same("7 by size 9 more", drum.value(14), 70);
        });
        Check.test("terms, Cylinders: the least leak and the greatest", () -> {
            CamDrum drum = Check.rods(100);
            drum.run(1);
            Check.same("without a leak", drum.value(15), 0);
            drum.setCylinder(0, 1, 50, 20);
            drum.run(1);
            Check.same("with the greatest", drum.value(15), 20);
        });
    }

    private static void tank() {
        Check.test("terms, A tick 1: a tank that becomes just full lets nothing off", () -> {
            CamDrum drum = new CamDrum();
            drum.setAir(1050, 50);
            drum.run(1);
            Check.values(drum, 5, 1050);
            Check.values(drum, 12, 1050, 0);
        });
        Check.test("terms, A tick 1: one beyond the capacity is let off", () -> {
            CamDrum drum = new CamDrum();
            drum.setAir(1049, 50);
            drum.run(1);
            Check.values(drum, 5, 1049);
            Check.values(drum, 12, 1050, 1);
        });
        Check.test("terms, A tick 1: a full tank lets off all that comes", () -> {
            CamDrum drum = new CamDrum();
            drum.setAir(1000, 500);
            drum.run(1);
            Check.values(drum, 5, 1000);
            Check.values(drum, 12, 1500, 500);
        });
        Check.test("terms, A tick 1: a compressor of 0 makes nothing", () -> {
            CamDrum drum = new CamDrum();
            drum.setAir(2000, 0);
            drum.run(500);
            Check.values(drum, 5, 1000);
            Check.values(drum, 12, 1000, 0);
        });
        Check.test("terms, Air: the tank has at most 9999", () -> {
            CamDrum drum = new CamDrum();
            drum.setAir(9999, 500);
            drum.run(17);
            Check.same("one tick ahead", drum.value(5), 9500);
            drum.run(1);
            Check.values(drum, 5, 9999);
            Check.values(drum, 12, 10000, 1);
        });
        Check.test("terms, Air: the least capacity", () -> {
            CamDrum drum = new CamDrum();
            drum.setAir(100, 1);
            drum.run(1);
            Check.values(drum, 5, 100);
            Check.values(drum, 12, 1001, 901);
        });
    }

    /** Cylinder 0 has taken all air, and is out by 50; cylinder 1 has got none; nothing is made. */
    private static CamDrum emptied() {
        CamDrum drum = Check.rods(0, 0);
        drum.setAir(100, 0);
        drum.setCylinder(0, 2, 50, 0);
        drum.run(1);
        Check.outs(drum, 50, 0);
        Check.same("the tank", drum.value(5), 0);
        return drum;
    }

    private static void emptyTank() {
        Check.test("terms, Air: with an empty tank no rod moves out", () -> {
            CamDrum drum = emptied();
            drum.run(1);
            Check.outs(drum, 50, 0);
            Check.values(drum, 14, 100);
        });
        Check.test("terms, A tick 3: with an empty tank a rod moves in", () -> {
            CamDrum drum = emptied();
            drum.setCam(0, 0, false);
            drum.setCylinder(0, 2, 30, 0);
            drum.run(1);
            Check.outs(drum, 20, 0);
            Check.same("the tank", drum.value(5), 0);
        });
        Check.test("terms, A tick 4: an empty tank leaks nothing", () -> {
            CamDrum drum = emptied();
            drum.setCylinder(0, 2, 50, 20);
            drum.run(1);
            Check.values(drum, 15, 0);
            Check.same("the tank", drum.value(5), 0);
        });
        Check.test("terms, A tick 2: an empty tank is enough for a least air of 0, not for 1", () -> {
            CamDrum enough = emptied();
            enough.setPawl(1, 0);
            enough.run(1);
            Check.values(enough, 1, 1, 0);
            CamDrum little = emptied();
            little.setPawl(1, 1);
            little.run(1);
            Check.values(little, 1, 0, 0);
        });
    }

    /** Cylinder 4 of size 9 in a tick that begins with so much in the tank. */
    private static void movesByAir(int air, int far, int left) {
        CamDrum drum = Check.rods(50, 0, 0, 0, 0);
        for (int c = 1; c < 4; c++) {
            drum.setCam(c, 0, false);
        }
        drum.setAir(100, 0);
        drum.setCylinder(0, 2, 50, 0);
        drum.run(1);
        Check.same("the tank is empty", drum.value(5), 0);
        drum.setAir(100, air);
        drum.setCylinder(4, 9, 50, 0);
        drum.run(1);
        Check.same("how far it moves with " + air, drum.cylinder(4, 0), far);
        Check.same("the tank behind it", drum.value(5), left);
        Check.same("the air that it has used", drum.cylinder(4, 6), 9 * far);
    }

    private static void airForMoves() {
        Check.test("terms, A tick 3: no air, one too little, just enough, one more (tank / size)", () -> {
            movesByAir(0, 0, 0);
            movesByAir(8, 0, 8);
            movesByAir(9, 1, 0);
            movesByAir(10, 1, 1);
        });
        Check.test("terms, A tick 3: tank / size is rounded down", () -> {
            movesByAir(17, 1, 8);
            movesByAir(18, 2, 0);
            movesByAir(99, 11, 0);
            movesByAir(100, 11, 1);
        });
        Check.test("terms, A tick 3: speed, end and air, each of them the least by one", () -> {
            CamDrum speed = Check.rods(50);
            speed.setAir(100, 0);
            speed.setCylinder(0, 2, 49, 0);
            speed.run(1);
            Check.outs(speed, 99);
            CamDrum end = Check.rods(51);
            end.setAir(100, 0);
            end.setCylinder(0, 2, 50, 0);
            end.run(1);
            Check.outs(end, 100);
            Check.same("the tank", end.value(5), 2);
            CamDrum air = Check.rods(66, 0);
            air.setAir(100, 0);
            air.setCylinder(0, 3, 34, 0);
            air.run(1);
            Check.outs(air, 99, 1);
            Check.same("the tank", air.value(5), 0);
        });
        Check.test("terms, A tick 3: the first cylinder takes the air, the last gets what is left", () -> {
            CamDrum all = Check.rods(0, 0, 0, 0, 0);
            all.setAir(100, 0);
            all.setCylinder(0, 2, 50, 0);
            all.run(1);
            Check.outs(all, 50, 0, 0, 0, 0);
            CamDrum rest = Check.rods(0, 0, 0, 0, 0);
            rest.setAir(200, 0);
            for (int c = 0; c < 4; c++) {
                rest.setCylinder(c, 1, 49, 0);
            }
            rest.run(1);
            Check.outs(rest, 49, 49, 49, 49, 4);
        });
    }

    /** Cylinder 0 is guarded by how far cylinder 1 is out when the tick begins. */
    private static void guarded(int bound, int other, int from, int to) {
        CamDrum drum = Check.rods(from, other);
        drum.addGuard(0, 1, bound);
        int usedBefore = drum.cylinder(0, 6);
        drum.run(1);
        String where = "from " + from + ", bound " + bound + ", the other one out by " + other;
        Check.same(where, drum.cylinder(0, 0), to);
        Check.same("the air used " + where, drum.cylinder(0, 6) - usedBefore, to - from);
    }

    private static void guardBounds() {
        Check.test("terms, Guards: the other one at the bound does not hold it, one beyond it does", () -> {
            guarded(50, 50, 20, 70);
            guarded(50, 51, 20, 50);
        });
        Check.test("terms, Guards: the least bound, 1", () -> {
            guarded(1, 1, 0, 50);
            guarded(1, 2, 0, 1);
        });
        Check.test("terms, Guards: the greatest bound, 99", () -> {
            guarded(99, 99, 60, 100);
            guarded(99, 100, 60, 99);
        });
        Check.test("terms, Guards: the guarded one below, at and beyond the bound does not move beyond it", () -> {
            guarded(50, 51, 49, 50);
            guarded(50, 51, 50, 50);
            guarded(50, 51, 51, 51);
            guarded(50, 51, 99, 99);
            guarded(50, 51, 100, 100);
        });
        Check.test("terms, Guards: the other one all the way in does not hold it", () -> guarded(1, 0, 0, 50));
        Check.test("terms, Guards: moving in is free, beyond the bound, too", () -> {
            CamDrum drum = Check.rods(51, 100);
            drum.addGuard(0, 1, 50);
            drum.setCam(0, 0, false);
            drum.run(1);
            Check.outs(drum, 1, 100);
        });
        Check.test("terms, Guards: the other one is free", () -> {
            CamDrum drum = Check.rods(60, 60);
            drum.addGuard(0, 1, 50);
            drum.run(1);
            Check.outs(drum, 60, 100);
        });
        Check.test("terms, Guards: of four the least bound that holds", () -> {
            CamDrum drum = Check.rods(0, 41, 31, 20, 100);
            drum.addGuard(0, 1, 40);
            drum.addGuard(0, 2, 30);
            drum.addGuard(0, 3, 20);
            drum.addGuard(0, 4, 35);
            drum.run(1);
            Check.outs(drum, 30);
        });
        Check.test("terms, Guards: the first alone, and the fourth alone", () -> {
            CamDrum first = Check.rods(0, 100, 0, 0, 0);
            CamDrum fourth = Check.rods(0, 0, 0, 0, 100);
            for (int other = 1; other <= 4; other++) {
                first.addGuard(0, other, 10 * other);
                fourth.addGuard(0, other, 10 * other);
            }
            first.run(1);
            Check.outs(first, 10);
            fourth.run(1);
            Check.outs(fourth, 40);
        });
    }

    private static void guardsAtThisMoment() {
        Check.test("terms, A tick 3: the other one with the lesser number has moved out already", () -> {
            CamDrum drum = Check.rods(50, 20);
            drum.addGuard(1, 0, 50);
            drum.setCylinder(0, 1, 1, 0);
            drum.run(1);
            Check.outs(drum, 51, 50);
        });
        Check.test("terms, A tick 3: the other one with the greater number has not moved out yet", () -> {
            CamDrum drum = Check.rods(20, 50);
            drum.addGuard(0, 1, 50);
            drum.run(1);
            Check.outs(drum, 70, 100);
        });
        Check.test("terms, A tick 3: the other one with the lesser number has moved in already", () -> {
            CamDrum drum = Check.rods(51, 20);
            drum.addGuard(1, 0, 50);
            drum.setCam(0, 0, false);
            drum.setCylinder(0, 1, 1, 0);
            drum.run(1);
            Check.outs(drum, 50, 70);
        });
        Check.test("terms, A tick 3: the other one with the greater number has not moved in yet", () -> {
            CamDrum drum = Check.rods(20, 51);
            drum.addGuard(0, 1, 50);
            drum.setCam(1, 0, false);
            drum.setCylinder(1, 1, 1, 0);
            drum.run(1);
            Check.outs(drum, 50, 50);
            drum.run(1);
            Check.outs(drum, 100, 49);
        });
    }

    /** Cylinder 0, out all the way, leaks until 100 of air are gone. */
    private static void leaksAll(int leak, int... leaked) {
        CamDrum drum = Check.rods(100);
        drum.setAir(100, 0);
        drum.setCylinder(0, 1, 50, leak);
        for (int due : leaked) {
            drum.run(1);
            Check.same("leaked by it", drum.cylinder(0, 7), due);
            Check.same("leaked by all", drum.value(15), due);
            Check.same("the tank", drum.value(5), 100 - due);
        }
    }

    private static void leaks() {
        Check.test("terms, A tick 4: a leak of just what there is empties the tank",
                () -> leaksAll(20, 20, 40, 60, 80, 100, 100));
        Check.test("terms, A tick 4: a leak of more than there is takes what there is",
                () -> leaksAll(19, 19, 38, 57, 76, 95, 100, 100));
        Check.test("terms, A tick 4: a leak of 0 takes nothing", () -> leaksAll(0, 0, 0));
        Check.test("terms, A tick 4: a cylinder that is out by 0 does not leak", () -> {
            CamDrum drum = Check.rods(0, 0);
            drum.setAir(100, 8);
            drum.setCylinder(0, 2, 50, 0);
            drum.setCylinder(1, 9, 50, 20);
            drum.run(2);
            Check.outs(drum, 54, 0);
            drum.setCam(0, 0, false);
            drum.run(1);
            Check.values(drum, 15, 0);
            Check.values(drum, 5, 8);
        });
        Check.test("terms, A tick 4: a cylinder that is out by 1, in this very tick, leaks", () -> {
            CamDrum drum = Check.rods(0);
            drum.setCylinder(0, 1, 1, 20);
            drum.run(1);
            Check.outs(drum, 1);
            Check.values(drum, 15, 20);
        });
        Check.test("terms, A tick 4: a cylinder without a cam does not leak", () -> {
            CamDrum drum = Check.rods(100);
            drum.setCylinder(0, 1, 1, 20);
            drum.setCam(0, 0, false);
            drum.run(1);
            Check.outs(drum, 99);
            Check.values(drum, 15, 0);
        });
        Check.test("terms, A tick 4: the first leaks all of its leak, the last what is left", () -> {
            CamDrum drum = Check.rods(100, 0, 0, 0, 100);
            for (int c = 1; c < 4; c++) {
                drum.setCam(c, 0, false);
            }
            drum.setAir(100, 0);
            drum.setCylinder(0, 1, 50, 20);
            drum.setCylinder(4, 1, 50, 15);
            drum.run(3);
            Check.same("leaked by the first", drum.cylinder(0, 7), 60);
            Check.same("leaked by the last", drum.cylinder(4, 7), 40);
        });
    }

    private static void order() {
        Check.test("terms, A tick: the compressor's air is there for the pawl", () -> {
            CamDrum drum = new CamDrum();
            drum.setAir(2000, 1);
            drum.setPawl(1, 1001);
            drum.run(1);
            Check.values(drum, 1, 1);
        });
        Check.test("terms, A tick: what is beyond the capacity is let off ahead of the pawl", () -> {
            CamDrum drum = new CamDrum();
            drum.setAir(1000, 500);
            drum.setPawl(1, 1001);
            drum.run(1);
            Check.values(drum, 1, 0);
        });
        Check.test("terms, A tick: the pawl is ahead of the moves", () -> {
            CamDrum drum = Check.rods(0);
            drum.setAir(100, 0);
            drum.setPawl(1, 100);
            drum.setCam(0, 1, true);
            drum.run(1);
            Check.values(drum, 1, 1);
            Check.same("the tank", drum.value(5), 50);
        });
        Check.test("terms, A tick: the leaks are behind all moves", () -> {
            CamDrum drum = Check.rods(100, 0, 0, 0, 0);
            for (int c = 1; c < 4; c++) {
                drum.setCam(c, 0, false);
            }
            drum.setAir(100, 0);
            drum.setCylinder(0, 1, 50, 20);
            drum.run(2);
            Check.outs(drum, 100, 0, 0, 0, 80);
            Check.values(drum, 14, 180, 20);
        });
    }
}
