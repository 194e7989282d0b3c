/** Promises 22 to 24: the text and what is read from it. */
final class TextTests {
    private TextTests() {
    }

    static void run() {
        Check.test("promise 22: append", TextTests::promise22);
        Check.test("promise 23: clearText", TextTests::promise23);
        Check.test("promise 24: parse takes the tracks", TextTests::promise24);
        Check.test("promise 24: parse, what changes and what stays", TextTests::promise24Changes);
        Check.test("promise 24: parse, the number of steps", TextTests::promise24Steps);
        Check.test("promise 24: parse, faults in items", TextTests::promise24Faults);
        Check.test("promise 24: parse, faults in the number of steps", TextTests::promise24StepFaults);
        Check.test("promise 24: parse, 100 bytes", TextTests::promise24Longest);
        Check.test("promise 24: undo of parse", TextTests::promise24Undo);
    }

    private static void promise22() {
        CamDrum drum = new CamDrum();
        Check.refusesArgument(drum, () -> drum.append(-1));
        Check.refusesArgument(drum, () -> drum.append(128));
        Check.same("append(0)", drum.append(0), 1);
        Check.same("append(127)", drum.append(127), 2);
        for (int i = 3; i <= 100; i++) {
            Check.same("append(59)", drum.append(59), i);
        }
        Check.refusesState(drum, () -> drum.append(59));
        Check.refusesArgument(drum, () -> drum.append(128));
        Check.refusesArgument(drum, () -> drum.append(-1));
        Check.refusesState(drum, drum::undo);
    }

    private static void promise23() {
        CamDrum drum = new CamDrum();
        Check.same("clearText()", drum.clearText(), 0);
        Check.tell(drum, "0:xx");
        Check.same("clearText()", drum.clearText(), 4);
        Check.same("clearText()", drum.clearText(), 0);
        Check.same("append(48)", drum.append(48), 1);
        Check.same("only the new byte is there", drum.parse(), -11);
        Check.refusesState(drum, drum::undo);
    }

    private static int parsed(String text) {
        CamDrum drum = new CamDrum();
        Check.tell(drum, text);
        return drum.parse();
    }

    /** A new drum reads this text, of which the byte at the position cannot stand there. */
    private static void faulty(String text, int position) {
        CamDrum drum = new CamDrum();
        drum.setCam(1, 1, true);
        Check.tell(drum, text);
        long before = drum.digest();
        Check.same("parse() of " + text, drum.parse(), -10 - position);
        Check.same("the digest behind the fault in " + text, drum.digest(), before);
        Check.same("saved states behind the fault in " + text, drum.undo(), 0);
    }

    private static void promise24() {
        CamDrum drum = new CamDrum();
        drum.setCam(3, 3, true);
        Check.tell(drum, "4:x.......;0:.x.x.x.x;4:......xx;");
        Check.same("cams", drum.parse(), 6);
        for (int step = 0; step < 8; step++) {
            Check.same("cam(0, step)", drum.cam(0, step), step % 2 == 1);
            Check.same("as told last", drum.cam(4, step), step >= 6);
            Check.same("not told", drum.cam(3, step), false);
        }
        Check.same("the text stays", drum.append(';'), 34);
        Check.same("a text without items", parsed(""), 0);
        Check.same("all cams", parsed("0:xxxxxxxx;1:xxxxxxxx;2:xxxxxxxx;3:xxxxxxxx;4:xxxxxxxx;"), 40);
    }

    private static void promise24Changes() {
        CamDrum drum = Check.drumOf("0:xx......;1:.x......;");
        drum.setCylinder(0, 2, 20, 4);
        drum.addGuard(1, 0, 90);
        drum.run(9);
        drum.setPawl(1, 5000);
        drum.run(2);
        Check.same("skips", drum.skips(2), 2);
        Check.tell(drum, "n5;2:..x..;");
        int[] before = new int[16];
        int[] out = new int[5];
        for (int what = 0; what < 16; what++) {
            before[what] = drum.value(what);
        }
        for (int c = 0; c < 5; c++) {
            out[c] = drum.cylinder(c, 0);
        }
        Check.same("cams", drum.parse(), 1);
        before[0] = 5;
        before[1] = 0;
        before[2] = 0;
        Check.values(drum, 0, before);
        Check.outs(drum, out);
        Check.same("size", drum.cylinder(0, 1), 2);
        Check.same("leak", drum.cylinder(0, 3), 4);
        Check.same("guard", drum.guard(0, 2), 90);
        Check.same("all skips", drum.value(11), 2);
        for (int step = 0; step < 5; step++) {
            Check.same("skips", drum.skips(step), 0);
            for (int c = 0; c < 5; c++) {
                Check.same("chart", drum.chart(c, step), CamDrum.NONE);
            }
        }
        Check.same("a turn to the new last step", drum.turn(4), 0);
        Check.refusesIndex(drum, () -> drum.turn(5));
        CamDrum standing = new CamDrum();
        standing.run(6);
        Check.values(standing, 1, 1, 2);
        standing.parse();
        Check.values(standing, 1, 0, 0);
        Check.same("chart", standing.chart(0, 0), CamDrum.NONE);
    }

    private static void promise24Steps() {
        for (int steps = 2; steps <= 16; steps++) {
            CamDrum drum = Check.drumOf("n" + steps + ";");
            Check.same("steps", drum.value(0), steps);
        }
        CamDrum drum = Check.drumOf("n02;0:xx;");
        Check.same("steps", drum.value(0), 2);
        Check.tell(drum, "1:x.;");
        Check.same("the steps stay when they are not told", drum.parse(), 1);
        Check.same("steps", drum.value(0), 2);
        Check.same("not told", drum.cam(0, 0), false);
        Check.tell(drum, "1:x.......;");
        Check.same("the steps of now count", drum.parse(), -14);
        Check.tell(drum, "n09;1:x.......x;");
        Check.same("cams", drum.parse(), 2);
        Check.same("steps", drum.value(0), 9);
        Check.same("cam(1, 8)", drum.cam(1, 8), true);
        Check.tell(drum, "n2;");
        drum.parse();
        Check.tell(drum, "n9;");
        drum.parse();
        Check.same("no cam comes back", drum.cam(1, 8), false);
    }

    private static void promise24Faults() {
        faulty("5:x.......;", 0);
        faulty("x", 0);
        faulty(";", 0);
        faulty(" 0:x.......;", 0);
        faulty("N8;", 0);
        faulty("/", 0);
        faulty("\u0000", 0);
        faulty("0", 1);
        faulty("0;", 1);
        faulty("0x", 1);
        faulty("00:x.......;", 1);
        faulty("0:", 2);
        faulty("0:;", 2);
        faulty("0::", 2);
        faulty("0:X", 2);
        faulty("0:x......", 9);
        faulty("0:x......;", 9);
        faulty("0:x.......", 10);
        faulty("0:x.......x", 10);
        faulty("0:x........", 10);
        faulty("0:x.......:", 10);
        faulty("0:x.......;;", 11);
        faulty("0:x.......;n8;", 11);
        faulty("0:x.......; ", 11);
        faulty("0:x.......;1", 12);
        faulty("0:x.......;1:x......;", 20);
        faulty("4:x.......;5:x.......;", 11);
        faulty("n8;n8;", 3);
        faulty("n3;0:xxxx;", 8);
        faulty("n3;0:xx;", 7);
    }

    private static void promise24StepFaults() {
        faulty("n", 1);
        faulty("n;", 1);
        faulty("nn", 1);
        faulty("n-2;", 1);
        faulty("n:", 1);
        faulty("n/", 1);
        faulty("n8", 2);
        faulty("n8:", 2);
        faulty("n8x", 2);
        faulty("n16", 3);
        faulty("n16x", 3);
        faulty("n016;", 3);
        faulty("n160;", 3);
        faulty("n999;", 3);
        faulty("n000", 3);
        faulty("n0", 1);
        faulty("n0;", 1);
        faulty("n00;", 1);
        faulty("n1;", 1);
        faulty("n1", 1);
        faulty("n01", 1);
        faulty("n01:", 1);
        faulty("n17;", 1);
        faulty("n17", 1);
        faulty("n17x", 1);
        faulty("n99\u007f", 1);
        Check.same("n16;", parsed("n16;"), 0);
        Check.same("n2;", parsed("n2;"), 0);
    }

    private static void promise24Longest() {
        String tracks = "0:xxxxxxxxxxxxxxxx;1:xxxxxxxxxxxxxxxx;2:xxxxxxxxxxxxxxxx;3:xxxxxxxxxxxxxxxx;4:xxxxxxxxxxxxxxxx;";
        Check.same("99 bytes", parsed("n16;" + tracks), 80);
        faulty("n16;" + tracks + "0", 100);
        faulty("n16;" + tracks + ";", 99);
        StringBuilder many = new StringBuilder("n2;");
        for (int i = 0; i < 19; i++) {
            many.append(i % 5).append(":xx;");
        }
        Check.same("98 bytes", parsed(many.toString()), 10);
        faulty(many + "1:", 100);
    }

    private static void promise24Undo() {
        CamDrum drum = Check.drumOf("0:x..x....;");
        drum.run(10);
        Check.tell(drum, "n12;4:............;");
        long before = drum.digest();
        Check.same("cams", drum.parse(), 0);
        Check.undone(drum, before, 2);
        Check.same("steps", drum.value(0), 8);
        Check.same("the text stays, and is read again", drum.parse(), 0);
        Check.same("steps", drum.value(0), 12);
    }
}
