/** Promises 25 and 26: undo and digest. */
final class StateTests {
    private StateTests() {
    }

    static void run() {
        Check.test("promise 25: undo, at most 4 states", StateTests::promise25);
        Check.test("promise 25: undo of each undoable call", StateTests::promise25Calls);
        Check.test("promise 25: undo, what saves no state", StateTests::promise25NotSaved);
        Check.test("promise 25: undo leaves the text", StateTests::promise25Text);
        Check.test("promise 26: digest", StateTests::promise26);
    }

    private static void promise25() {
        CamDrum drum = new CamDrum();
        Check.refusesState(drum, drum::undo);
        for (int dwell = 5; dwell <= 11; dwell++) {
            drum.setPawl(dwell, dwell);
        }
        for (int left = 3; left >= 0; left--) {
            Check.same("undo()", drum.undo(), left);
            Check.same("dwell", drum.value(3), 7 + left);
        }
        Check.refusesState(drum, drum::undo);
        drum.setPawl(15, 0);
        drum.setPawl(16, 0);
        Check.same("undo()", drum.undo(), 1);
        drum.setPawl(17, 0);
        Check.same("undo()", drum.undo(), 1);
        Check.same("dwell", drum.value(3), 15);
        Check.same("undo()", drum.undo(), 0);
        Check.same("dwell", drum.value(3), 7);
        for (int saves = 1; saves <= 9; saves++) {
            CamDrum each = new CamDrum();
            for (int dwell = 5; dwell < 5 + saves; dwell++) {
                each.setPawl(dwell, 0);
            }
            for (int left = Math.min(saves, 4) - 1; left >= 0; left--) {
                Check.same("undo()", each.undo(), left);
            }
            Check.same("dwell behind all undos", each.value(3), Math.max(4, saves));
            Check.refusesState(each, each::undo);
        }
    }

    private static CamDrum busy() {
        CamDrum drum = Check.drumOf("n6;0:xx....;1:.xx...;2:x.x.x.;");
        drum.setCylinder(0, 3, 31, 5);
        drum.setAir(1200, 33);
        drum.addGuard(1, 0, 40);
        drum.addGuard(2, 1, 20);
        drum.setPawl(3, 1000);
        drum.run(44);
        return drum;
    }

    private static void promise25Calls() {
        Twins.Call[] calls = {
            drum -> drum.setCam(4, 4, true),
            drum -> drum.setPawl(1, 1),
            drum -> drum.setCylinder(2, 9, 1, 3),
            drum -> drum.setAir(300, 1),
            drum -> drum.addGuard(4, 0, 5),
            drum -> drum.removeGuard(0),
            drum -> drum.turn(5),
            drum -> drum.run(101),
            CamDrum::parse,
        };
        for (Twins.Call call : calls) {
            CamDrum drum = busy();
            Check.tell(drum, "n7;");
            String before = told(drum);
            call.on(drum);
            Check.same("the call changes something", told(drum).equals(before), false);
            Check.same("undo()", drum.undo(), 3);
            Check.same("all answers behind undo()", told(drum), before);
        }
    }

    /** All that the face tells of the state, but for the saved states. */
    private static String told(CamDrum drum) {
        StringBuilder all = new StringBuilder();
        for (int what = 0; what < 16; what++) {
            all.append(drum.value(what)).append(' ');
        }
        for (int c = 0; c < 5; c++) {
            for (int what = 0; what < 8; what++) {
                all.append(drum.cylinder(c, what)).append(' ');
            }
        }
        for (int g = 0; g < drum.value(8); g++) {
            for (int what = 0; what < 4; what++) {
                all.append(drum.guard(g, what)).append(' ');
            }
        }
        for (int step = 0; step < drum.value(0); step++) {
            all.append(drum.skips(step)).append(' ');
            for (int c = 0; c < 5; c++) {
                all.append(drum.cam(c, step)).append(drum.chart(c, step)).append(' ');
            }
        }
        return all.toString();
    }

    private static void promise25NotSaved() {
        CamDrum drum = new CamDrum();
        drum.turn(3);
        Check.tell(drum, "q");
        drum.parse();
        drum.clearText();
        drum.digest();
        drum.useful();
        drum.repeats();
        drum.chart(0, 0);
        Check.thrownBy(() -> drum.setCam(9, 9, true));
        Check.thrownBy(() -> drum.run(0));
        Check.same("undo()", drum.undo(), 0);
        Check.same("step", drum.value(1), 0);
        CamDrum unchanging = new CamDrum();
        unchanging.turn(0);
        unchanging.setPawl(4, 100);
        unchanging.setAir(2000, 50);
        unchanging.parse();
        Check.same("calls that change nothing save a state, too", unchanging.undo(), 3);
    }

    private static void promise25Text() {
        CamDrum drum = new CamDrum();
        Check.tell(drum, "0:x");
        drum.turn(3);
        drum.append('x');
        drum.undo();
        Check.same("the text stays", drum.append('x'), 5);
        drum.turn(3);
        drum.clearText();
        drum.undo();
        Check.same("the text stays empty", drum.clearText(), 0);
    }

    /** The document's formula, by the answers of the face. */
    static long formula(CamDrum drum, int textLength, int saved) {
        long h = 3467;
        h = 31 * h + textLength;
        for (int what = 0; what <= 15; what++) {
            h = 31 * h + drum.value(what);
        }
        for (int c = 0; c <= 4; c++) {
            for (int what = 0; what <= 7; what++) {
                h = 31 * h + drum.cylinder(c, what);
            }
        }
        for (int g = 0; g < drum.value(8); g++) {
            for (int what = 0; what <= 3; what++) {
                h = 31 * h + drum.guard(g, what);
            }
        }
        for (int step = 0; step < drum.value(0); step++) {
            h = 31 * h + drum.skips(step);
            for (int c = 0; c <= 4; c++) {
                h = 31 * h + (drum.cam(c, step) ? 1 : 0);
                h = 31 * h + drum.chart(c, step);
            }
        }
        h = 31 * h + drum.ticksToCycle();
        return 31 * h + saved;
    }

    private static void promise26() {
        CamDrum drum = new CamDrum();
        Check.same("of a new drum", drum.digest(), formula(drum, 0, 0));
        Check.same("again", drum.digest(), formula(drum, 0, 0));
        CamDrum told = new CamDrum();
        told.append(0);
        told.append(1);
        Check.same("with a text", told.digest(), formula(told, 2, 0));
        told.turn(7);
        Check.same("with a saved state", told.digest(), formula(told, 2, 1));
        CamDrum busy = busy();
        Check.same("of a busy drum", busy.digest(), formula(busy, 30, 4));
        busy.undo();
        busy.undo();
        Check.same("behind undo()", busy.digest(), formula(busy, 30, 2));
        CamDrum endless = busy();
        endless.setPawl(1, 5000);
        endless.run(20);
        Check.same("without a next cycle", endless.ticksToCycle(), CamDrum.NONE);
        Check.same("without a next cycle", endless.digest(), formula(endless, 30, 4));
    }
}
