import java.util.HashSet;
import java.util.Objects;
import java.util.Set;

/** Runs tests by name and counts them. */
final class Check {
    interface Body {
        void run() throws Exception;
    }

    private static final Set<String> NAMES = new HashSet<>();

    private static int passed;
    private static int failed;

    private Check() {
    }

    static void test(String name, Body body) {
        try {
            same("a test's name is its own: " + name, NAMES.add(name), true);
            body.run();
            passed++;
            System.out.println("ok      " + name);
        } catch (Exception | AssertionError | StackOverflowError e) {
            failed++;
            System.out.println("FAILED  " + name + ": " + e);
            for (StackTraceElement line : e.getStackTrace()) {
                if (line.getClassName().endsWith("Tests")) {
                    System.out.println("        at " + line);
                }
            }
        }
    }

    static int passed() {
        return passed;
    }

    static int failed() {
        return failed;
    }

    static void same(String what, Object got, Object due) {
        if (!Objects.equals(got, due)) {
            throw new AssertionError(what + " is " + got + ", due is " + due);
        }
    }

    /** Names the exception that a call throws; "nothing" if it throws none. */
    static String thrownBy(Body call) {
        try {
            call.run();
            return "nothing";
        } catch (Exception e) {
            return e.getClass().getSimpleName();
        }
    }

    /** The call throws just this exception, and the drum is as it was. */
    static void refuses(CamDrum drum, Class<? extends Exception> kind, Body call) {
        long before = drum.digest();
        same("what the call throws", thrownBy(call), kind.getSimpleName());
        same("the digest behind a call that throws", drum.digest(), before);
    }

    static void refusesIndex(CamDrum drum, Body call) {
        refuses(drum, IndexOutOfBoundsException.class, call);
    }

    static void refusesArgument(CamDrum drum, Body call) {
        refuses(drum, IllegalArgumentException.class, call);
    }

    static void refusesState(CamDrum drum, Body call) {
        refuses(drum, IllegalStateException.class, call);
    }

    /** A drum whose tracks are those of a text. */
    static CamDrum drumOf(String text) {
        CamDrum drum = new CamDrum();
        tell(drum, text);
        if (drum.parse() < 0) {
            throw new AssertionError("the text " + text + " is not read");
        }
        return drum;
    }

    /** The text is emptied, and this one is put there. */
    static void tell(CamDrum drum, String text) {
        drum.clearText();
        for (int i = 0; i < text.length(); i++) {
            drum.append(text.charAt(i));
        }
    }

    /** The numbers that value() is due to answer from one what on. */
    static void values(CamDrum drum, int fromWhat, int... due) {
        for (int i = 0; i < due.length; i++) {
            same("value(" + (fromWhat + i) + ")", drum.value(fromWhat + i), due[i]);
        }
    }

    /** How far the cylinders from 0 on are due to be out. */
    static void outs(CamDrum drum, int... due) {
        for (int c = 0; c < due.length; c++) {
            same("cylinder(" + c + ", 0)", drum.cylinder(c, 0), due[c]);
        }
    }

    /**
     * A drum with the first cylinders out by so much: it stands at step 0 with the greatest dwell, these cylinders
     * have cams there, size 1, speed 50 and no leak; there are some 2000 of air and a compressor of 500.
     */
    static CamDrum rods(int... outs) {
        CamDrum drum = new CamDrum();
        drum.setPawl(20, 0);
        drum.setAir(9999, 500);
        for (int c = 0; c < outs.length; c++) {
            halfway(drum, c, outs[c] / 2);
        }
        drum.run(1);
        for (int c = 0; c < outs.length; c++) {
            halfway(drum, c, outs[c] - outs[c] / 2);
        }
        drum.run(1);
        outs(drum, outs);
        for (int c = 0; c < outs.length; c++) {
            drum.setCam(c, 0, true);
            drum.setCylinder(c, 1, 50, 0);
        }
        return drum;
    }

    // A speed of 0 cannot be told: what should not move has no cam, and is in.
    private static void halfway(CamDrum drum, int cylinder, int far) {
        drum.setCam(cylinder, 0, far > 0);
        drum.setCylinder(cylinder, 1, Math.max(far, 1), 0);
    }

    /** Takes the latest call back: the digest is as before it, but for the state that was dropped if there were 4. */
    static void undone(CamDrum drum, long digestBefore, int savedBefore) {
        int left = Math.min(savedBefore, 3);
        same("undo()", drum.undo(), left);
        same("the digest behind undo()", drum.digest(), digestBefore - savedBefore + left);
    }
}
