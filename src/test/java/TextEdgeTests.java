/** The edges of promises 22 to 24 and of the term Text: each place where a byte cannot stand, and what parse() does. */
final class TextEdgeTests {
    private static final String DIGITS = "0123456789";
    // 100 bytes that can be read: what a refused call has changed in them is seen by parse().
    private static final String FULL = "n03;" + repeated("0:x.x;", 16);

    private TextEdgeTests() {
    }

    static void run() {
        append();
        clearText();
        tracks();
        items();
        bytes();
        stepNumbers();
        stepNumberRange();
        endsTooEarly();
        lengths();
        parseAnswers();
        parseChanges();
        parseUndo();
    }

    /** A drum of 8 steps with 4 saved states and this text. */
    private static CamDrum told(String text) {
        CamDrum drum = new CamDrum();
        drum.setCam(1, 1, true);
        drum.setCam(4, 7, true);
        drum.run(9);
        drum.setPawl(3, 1500);
        drum.run(11);
        drum.turn(7);
        Check.tell(drum, text);
        return drum;
    }

    /** The first byte that cannot stand is at the position, or the text ends there too early; then nothing changes. */
    private static void faulty(String text, int position) {
        Check.same("parse() of " + text, told(text).parse(), -10 - position);
        Twins.changesNothingOn(() -> told(text), CamDrum::parse);
    }

    private static void good(String text, int steps, int cams) {
        CamDrum drum = told(text);
        Check.same("parse() of " + text, drum.parse(), cams);
        Check.same("the steps behind " + text, drum.value(0), steps);
    }

    private static String repeated(String text, int times) {
        StringBuilder all = new StringBuilder();
        for (int i = 0; i < times; i++) {
            all.append(text);
        }
        return all.toString();
    }

    private static void append() {
        Check.test("promise 22, append: a byte is 0 to 127",
                () -> Twins.range(0, 127, Twins.ARGUMENT, CamDrum::append));
        Check.test("promise 22, append: the new length, from 1 to 100", () -> {
            CamDrum drum = new CamDrum();
            for (int length = 1; length <= 100; length++) {
                Check.same("append", drum.append(127), length);
            }
        });
        Check.test("terms, Text: at most 100 bytes; the 100th is taken, one more is not", () -> {
            Twins.takenOn(() -> told(FULL.substring(1)), drum -> drum.append(';'));
            Twins.refusedOn(() -> told(FULL), Twins.STATE, drum -> drum.append(';'));
            Twins.refusedOn(() -> told(FULL), Twins.STATE, drum -> drum.append(0));
        });
        Check.test("promise 22, append: no byte is listed ahead of a text of 100 bytes", () -> {
            Twins.refusedOn(() -> told(FULL), Twins.ARGUMENT, drum -> drum.append(128));
            Twins.refusedOn(() -> told(FULL), Twins.ARGUMENT, drum -> drum.append(-1));
        });
        Check.test("promise 22, append: not undoable", () -> Twins.savesNothing(drum -> drum.append(0)));
    }

    private static void clearText() {
        Check.test("promise 23, clearText: an empty text, one byte, and 100", () -> {
            Check.same("empty", told("").clearText(), 0);
            Check.same("one byte", told(";").clearText(), 1);
            Check.same("100 bytes", told(repeated("x", 100)).clearText(), 100);
        });
        Check.test("promise 23, clearText: behind it the text is empty, and takes 100 bytes again", () -> {
            CamDrum drum = told(repeated("x", 100));
            drum.clearText();
            Check.same("cleared again", drum.clearText(), 0);
            Check.tell(drum, repeated("y", 99));
            Check.same("the 100th byte", drum.append('y'), 100);
        });
        Check.test("promise 23, clearText: what was there is not read any more", () -> {
            CamDrum drum = told("0:xxxxxxxx;1:xxxxxxxx;");
            drum.clearText();
            Check.same("parse() of the empty text", drum.parse(), 0);
            Check.tell(drum, "2:");
            Check.same("parse() of two bytes", drum.parse(), -12);
        });
        Check.test("promise 23, clearText: not undoable", () -> Twins.savesNothing(CamDrum::clearText));
    }

    private static void tracks() {
        Check.test("terms, Text: a track is a digit 0 to 4", () -> {
            good("0:x.......;", 8, 1);
            good("4:x.......;", 8, 1);
            faulty("5:x.......;", 0);
            faulty("/:x.......;", 0);
            faulty("0:x.......;5:x.......;", 11);
        });
        Check.test("terms, Text: an x too many, at 2, 8 and 16 steps", () -> {
            for (int steps : new int[] {2, 8, 16}) {
                String start = "n" + steps + ";3:" + repeated("x", steps);
                good(start + ";", steps, steps);
                faulty(start + "x;", start.length());
                faulty(start + "x", start.length());
            }
        });
        Check.test("terms, Text: a . too many, at 2, 8 and 16 steps", () -> {
            for (int steps : new int[] {2, 8, 16}) {
                String start = "n" + steps + ";3:" + repeated(".", steps);
                good(start + ";", steps, 0);
                faulty(start + ".;", start.length());
                faulty(start + ".", start.length());
            }
        });
        Check.test("terms, Text: a ; where there are too few, none and one less, at 2, 8 and 16 steps", () -> {
            for (int steps : new int[] {2, 8, 16}) {
                String start = "n" + steps + ";3:";
                faulty(start + ";", start.length());
                String oneLess = start + repeated("x", steps - 1);
                faulty(oneLess + ";", oneLess.length());
            }
        });
        Check.test("terms, Text: as many as the drum has steps, when the text tells no number", () -> {
            faulty("0:xxxxxxx;", 9);
            good("0:xxxxxxxx;", 8, 8);
            faulty("0:xxxxxxxxx;", 10);
        });
        Check.test("terms, Text: as many as the text tells, whatever the drum has", () -> {
            good("n7;0:xxxxxxx;", 7, 7);
            faulty("n7;0:xxxxxxxx;", 12);
            faulty("n9;0:xxxxxxxx;", 13);
        });
        Check.test("terms, Text: a track without its colon, and with two", () -> {
            faulty("0x.......;", 1);
            faulty("0;", 1);
            faulty("0::x......;", 2);
            faulty("00:x......;", 1);
        });
    }

    private static void items() {
        Check.test("terms, Text: there may be no items", () -> good("", 8, 0));
        Check.test("terms, Text: a semicolon without an item, at the beginning, in between and at the end", () -> {
            faulty(";", 0);
            faulty(";0:x.......;", 0);
            faulty("0:x.......;;1:x.......;", 11);
            faulty("0:x.......;;", 11);
            faulty("n8;;", 3);
        });
        Check.test("terms, Text: an item that no semicolon terminates, with another one behind it",
                () -> faulty("0:x.......1:x.......;", 10));
        Check.test("terms, Text: tracks that are not told have no cams", () -> {
            CamDrum drum = told("0:........;");
            Check.same("told ahead", drum.cam(4, 7), true);
            drum.parse();
            Check.same("not told", drum.cam(4, 7), false);
            Check.same("not told", drum.cam(1, 1), false);
        });
        Check.test("terms, Text: a track that is told again is as told last, all cams and none", () -> {
            good("4:xxxxxxxx;4:........;", 8, 0);
            good("4:........;4:xxxxxxxx;", 8, 8);
            good("4:xxxx....;0:x.......;4:......xx;4:x.......;", 8, 2);
        });
        Check.test("terms, Text: a space can stand nowhere", () -> {
            String text = "n4;0:x..x;";
            for (int at = 0; at <= text.length(); at++) {
                faulty(text.substring(0, at) + " " + text.substring(at), at);
            }
        });
        Check.test("terms, Text: a number of steps must be the first item", () -> {
            good("n8;0:x.......;", 8, 1);
            faulty("0:x.......;n8;", 11);
            faulty("n8;n8;", 3);
            faulty("n8;0:x.......;n8;", 14);
            faulty(";n8;", 0);
        });
    }

    /** Behind this beginning only these bytes can stand; each other one of the 128 is the fault, whatever follows. */
    private static void onlyBehind(String beginning, String allowed) {
        for (int value = 0; value <= 127; value++) {
            String text = beginning + (char) value;
            boolean fault = new CamDrumOf(text).answer == -10 - beginning.length();
            boolean faultWithMore = new CamDrumOf(text + ";0").answer == -10 - beginning.length();
            boolean due = allowed.indexOf(value) < 0;
            String where = "byte " + value + " behind " + beginning + " is a fault";
            Check.same(where, fault, due);
            Check.same(where + " with more behind it", faultWithMore, due);
        }
    }

    private static final class CamDrumOf {
        final int answer;

        CamDrumOf(String text) {
            CamDrum drum = new CamDrum();
            Check.tell(drum, text);
            answer = drum.parse();
        }
    }

    private static void bytes() {
        Check.test("terms, Text: each byte at the beginning", () -> onlyBehind("", "n01234"));
        Check.test("terms, Text: each byte behind n and a digit", () -> onlyBehind("n4", DIGITS + ";"));
        Check.test("terms, Text: each byte behind n and two digits", () -> {
            onlyBehind("n16", ";");
            onlyBehind("n08", ";");
        });
        Check.test("terms, Text: each byte behind the number of steps", () -> onlyBehind("n4;", "01234"));
        Check.test("terms, Text: each byte behind a track's digit", () -> {
            onlyBehind("0", ":");
            onlyBehind("n4;4", ":");
        });
        Check.test("terms, Text: each byte behind a track's colon", () -> onlyBehind("4:", "x."));
        Check.test("terms, Text: each byte behind all but one of x and .", () -> {
            onlyBehind("4:xxxxxxx", "x.");
            onlyBehind("n2;4:.", "x.");
        });
        Check.test("terms, Text: each byte behind the last x or .", () -> {
            onlyBehind("4:xxxxxxx.", ";");
            onlyBehind("n2;4:.x", ";");
        });
        Check.test("terms, Text: each byte behind a track", () -> onlyBehind("4:xxxxxxxx;", "01234"));
    }

    private static void stepNumbers() {
        Check.test("terms, Drum: 2 to 16 steps are told in one or two digits", () -> {
            for (int steps = 2; steps <= 16; steps++) {
                good("n" + steps + ";", steps, 0);
            }
        });
        Check.test("terms, Text: numbers can have a zero in front", () -> {
            for (int steps = 2; steps <= 9; steps++) {
                good("n0" + steps + ";", steps, 0);
            }
        });
        Check.test("terms, Text: no digit behind n", () -> {
            for (int value = 0; value <= 127; value++) {
                if (DIGITS.indexOf(value) < 0) {
                    Check.same("byte " + value, new CamDrumOf("n" + (char) value).answer, -11);
                    Check.same("byte " + value + " and a digit", new CamDrumOf("n" + (char) value + "8;").answer, -11);
                }
            }
            faulty("n;", 1);
            faulty("n-8;", 1);
        });
        Check.test("terms, Text: a third digit, whatever the digits ahead of it are", () -> {
            for (String digits : new String[] {"00", "01", "02", "10", "16", "17", "99"}) {
                for (int digit = 0; digit <= 9; digit++) {
                    String text = "n" + digits + digit;
                    Check.same("parse() of " + text, new CamDrumOf(text).answer, -13);
                    Check.same("parse() of " + text + ";", new CamDrumOf(text + ";").answer, -13);
                }
            }
            faulty("n016;", 3);
            faulty("n170;", 3);
            faulty("n000", 3);
        });
    }

    /** A number of steps that is out of its range, with each byte behind it that is no digit, and with none. */
    private static void outOfRange(String number) {
        for (int value = 0; value <= 127; value++) {
            if (DIGITS.indexOf(value) < 0) {
                String text = "n" + number + (char) value;
                Check.same("byte " + value + " behind n" + number, new CamDrumOf(text).answer, -11);
            }
        }
        faulty("n" + number, 1);
        faulty("n" + number + ";", 1);
        faulty("n" + number + ":", 1);
        faulty("n" + number + ";0:x;", 1);
    }

    private static void stepNumberRange() {
        Check.test("terms, Text: a number of steps of 1, one too small", () -> {
            outOfRange("1");
            outOfRange("01");
        });
        Check.test("terms, Text: a number of steps of 0", () -> {
            outOfRange("0");
            outOfRange("00");
        });
        Check.test("terms, Text: a number of steps of 17, one too large", () -> outOfRange("17"));
        Check.test("terms, Text: a number of steps of 99, the greatest of two digits", () -> outOfRange("99"));
        Check.test("terms, Text: a number in its range with a byte behind it that cannot stand, or none", () -> {
            faulty("n2", 2);
            faulty("n2:", 2);
            faulty("n02", 3);
            faulty("n02x", 3);
            faulty("n16", 3);
            faulty("n16:", 3);
        });
        Check.test("terms, Text: a digit behind 0 or 1 makes another number of it", () -> {
            good("n02;", 2, 0);
            good("n10;", 10, 0);
            good("n16;", 16, 0);
        });
    }

    private static void endsTooEarly() {
        Check.test("terms, Text: a text that ends too early, at each of its bytes", () -> {
            String text = "n4;0:x..x;4:.xx.;";
            for (int length = 0; length <= text.length(); length++) {
                String told = text.substring(0, length);
                if (told.isEmpty()) {
                    good(told, 8, 0);
                } else if (told.endsWith(";")) {
                    good(told, 4, length == 3 ? 0 : length == 10 ? 2 : 4);
                } else {
                    faulty(told, length);
                }
            }
        });
        Check.test("terms, Text: a text of 100 bytes that ends too early",
                () -> faulty("n3;" + repeated("0:xxx;", 16) + "4", 100));
        Check.test("terms, Text: a text of 99 bytes that ends too early",
                () -> faulty("n2;" + repeated("0:xx;", 19) + "4", 99));
    }

    private static void lengths() {
        Check.test("promise 24, parse: a text of 100 bytes is read to its end", () -> {
            Check.same("bytes", FULL.length(), 100);
            good(FULL, 3, 2);
            good("n03;" + repeated("0:xxx;", 15) + "4:.x.;", 3, 4);
            faulty("n03;" + repeated("0:xxx;", 15) + "4:.x.:", 99);
        });
        Check.test("promise 24, parse: all five tracks of 16 steps fit", () -> {
            StringBuilder all = new StringBuilder("n16;");
            for (int track = 0; track < 5; track++) {
                all.append(track).append(':').append(repeated("x", 16)).append(';');
            }
            Check.same("bytes", all.length(), 99);
            good(all.toString(), 16, 80);
        });
    }

    private static void parseAnswers() {
        Check.test("promise 24, parse: -10 for a fault at position 0, -110 for one at 100", () -> {
            Check.same("position 0", told("x").parse(), -10);
            Check.same("position 100", told("n3;" + repeated("0:xxx;", 16) + "4").parse(), -110);
        });
        Check.test("promise 24, parse: no cams, one, and all 80", () -> {
            good("n16;", 16, 0);
            good("n16;4:...............x;", 16, 1);
            good("n2;0:xx;1:xx;2:xx;3:xx;4:xx;", 2, 10);
        });
        Check.test("promise 24, parse: the first and the last step of the first and the last track", () -> {
            CamDrum drum = told("n16;0:x..............x;4:x..............x;");
            drum.parse();
            for (int track = 0; track < 5; track++) {
                for (int step = 0; step < 16; step++) {
                    boolean due = track % 4 == 0 && step % 15 == 0;
                    Check.same("cam(" + track + ", " + step + ")", drum.cam(track, step), due);
                }
            }
        });
        Check.test("promise 24, parse: the text stays, and is read once more", () -> {
            CamDrum drum = told("n2;0:x.;");
            Check.same("once", drum.parse(), 1);
            Check.same("once more", drum.parse(), 1);
            Check.same("its length", drum.clearText(), 8);
        });
    }

    private static void parseChanges() {
        Check.test("promise 24, parse: step and stand count are 0, from the last of 16 steps to 2", () -> {
            CamDrum drum = Check.drumOf("n16;");
            drum.turn(15);
            drum.run(3);
            Check.values(drum, 0, 16, 15, 3);
            Check.tell(drum, "n2;");
            drum.parse();
            Check.values(drum, 0, 2, 0, 0);
            Check.refusesIndex(drum, () -> drum.turn(2));
        });
        Check.test("promise 24, parse: no items: the steps stay, the drum stands at step 0", () -> {
            CamDrum drum = told("");
            drum.run(2);
            Check.values(drum, 0, 8, 7, 2);
            drum.parse();
            Check.values(drum, 0, 8, 0, 0);
        });
        Check.test("promise 24, parse: no cycle is over by it, no tick passes, the count of all skips stays", () -> {
            CamDrum drum = told("n5;");
            int skips = drum.value(11);
            Check.same("there were skips", skips > 0, true);
            drum.parse();
            Check.values(drum, 9, 20, 0, skips);
        });
        Check.test("promise 24, parse: the chart and the skips of all steps are as at first", () -> {
            CamDrum drum = Check.drumOf("n16;0:xxxxxxxxxxxxxxxx;");
            drum.setPawl(1, 0);
            drum.run(20);
            drum.setPawl(1, 5000);
            for (int step = 0; step < 16; step++) {
                drum.turn(step);
                drum.run(1);
            }
            Check.same("a skip at the last step", drum.skips(15), 1);
            Check.same("the chart of the last step", drum.chart(0, 15), 100);
            drum.parse();
            for (int step = 0; step < 16; step++) {
                Check.same("skips(" + step + ")", drum.skips(step), 0);
                for (int c = 0; c < 5; c++) {
                    Check.same("chart(" + c + ", " + step + ")", drum.chart(c, step), CamDrum.NONE);
                }
            }
        });
        Check.test("promise 24, parse: steps that come back have neither cams nor chart nor skips", () -> {
            CamDrum drum = Check.drumOf("4:.......x;");
            drum.setPawl(1, 5000);
            drum.turn(7);
            drum.run(1);
            Check.tell(drum, "n2;");
            drum.parse();
            Check.tell(drum, "n8;");
            drum.parse();
            Check.same("cam(4, 7)", drum.cam(4, 7), false);
            Check.same("chart(4, 7)", drum.chart(4, 7), CamDrum.NONE);
            Check.same("skips(7)", drum.skips(7), 0);
        });
        Check.test("promise 24, parse: all else stays, the rods that are out too", () -> {
            CamDrum drum = Check.rods(100, 1, 0, 50, 99);
            drum.addGuard(4, 0, 99);
            int[] values = new int[16];
            for (int what = 0; what < 16; what++) {
                values[what] = drum.value(what);
            }
            drum.parse();
            values[1] = 0;
            values[2] = 0;
            Check.values(drum, 0, values);
            Check.outs(drum, 100, 1, 0, 50, 99);
            Check.same("the guard", drum.guard(0, 2), 99);
        });
    }

    private static void parseUndo() {
        Check.test("promise 24, parse: undoable", () -> Twins.undoable(CamDrum::parse));
        Check.test("promise 24, parse: undoable when it changes nothing", () -> {
            CamDrum drum = new CamDrum();
            drum.parse();
            Check.same("undo()", drum.undo(), 0);
        });
        Check.test("promise 24, parse: from 2 steps to 16 and back by undo()", () -> {
            CamDrum drum = Check.drumOf("n2;4:.x;");
            drum.run(5);
            Check.tell(drum, "n16;");
            drum.parse();
            drum.undo();
            Check.values(drum, 0, 2, 1, 1);
            Check.same("cam(4, 1)", drum.cam(4, 1), true);
            Check.same("chart(4, 1)", drum.chart(4, 1), 40);
            Check.refusesIndex(drum, () -> drum.turn(2));
        });
        Check.test("promise 24, parse: not undoable with a syntax error", () -> {
            CamDrum drum = new CamDrum();
            Check.tell(drum, "n1;");
            drum.parse();
            Check.refusesState(drum, drum::undo);
        });
    }
}
