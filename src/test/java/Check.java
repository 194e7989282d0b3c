import java.util.Objects;

/** Runs tests by name and counts them. */
final class Check {
    interface Body {
        void run() throws Exception;
    }

    private static int passed;
    private static int failed;

    private Check() {
    }

    static void test(String name, Body body) {
        try {
            body.run();
            passed++;
            System.out.println("ok      " + name);
        } catch (Exception | AssertionError | StackOverflowError e) {
            failed++;
            System.out.println("FAILED  " + name + ": " + e);
            for (StackTraceElement line : e.getStackTrace()) {
                if (line.getMethodName().startsWith("promise") || line.getMethodName().startsWith("lambda")) {
                    System.out.println("        at " + line);
                }
            }
        }
    }

    static int passed() {
        return passed;
    }

    static int failed() {
        return failed;
    }

    static void same(String what, Object got, Object due) {
        if (!Objects.equals(got, due)) {
            throw new AssertionError(what + " is " + got + ", due is " + due);
        }
    }

    /** Names the exception that a call throws; "nothing" if it throws none. */
    static String thrownBy(Body call) {
        try {
            call.run();
            return "nothing";
        } catch (Exception e) {
            return e.getClass().getSimpleName();
        }
    }

    /** The call throws just this exception, and the drum is as it was. */
    static void refuses(CamDrum drum, Class<? extends Exception> kind, Body call) {
        long before = drum.digest();
        same("what the call throws", thrownBy(call), kind.getSimpleName());
        same("the digest behind a call that throws", drum.digest(), before);
    }

    static void refusesIndex(CamDrum drum, Body call) {
        refuses(drum, IndexOutOfBoundsException.class, call);
    }

    static void refusesArgument(CamDrum drum, Body call) {
        refuses(drum, IllegalArgumentException.class, call);
    }

    static void refusesState(CamDrum drum, Body call) {
        refuses(drum, IllegalStateException.class, call);
    }

    /** A drum whose tracks are those of a text. */
    static CamDrum drumOf(String text) {
        CamDrum drum = new CamDrum();
        tell(drum, text);
        if (drum.parse() < 0) {
            throw new AssertionError("the text " + text + " is not read");
        }
        return drum;
    }

    /** The text is emptied, and this one is put there. */
    static void tell(CamDrum drum, String text) {
        drum.clearText();
        for (int i = 0; i < text.length(); i++) {
            drum.append(text.charAt(i));
        }
    }

    /** The numbers that value() is due to answer from one what on. */
    static void values(CamDrum drum, int fromWhat, int... due) {
        for (int i = 0; i < due.length; i++) {
            same("value(" + (fromWhat + i) + ")", drum.value(fromWhat + i), due[i]);
        }
    }

    /** How far the cylinders from 0 on are due to be out. */
    static void outs(CamDrum drum, int... due) {
        for (int c = 0; c < due.length; c++) {
            same("cylinder(" + c + ", 0)", drum.cylinder(c, 0), due[c]);
        }
    }

    /** Takes the latest call back: the digest is as before it, but for the state that was dropped if there were 4. */
    static void undone(CamDrum drum, long digestBefore, int savedBefore) {
        int left = Math.min(savedBefore, 3);
        same("undo()", drum.undo(), left);
        same("the digest behind undo()", drum.digest(), digestBefore - savedBefore + left);
    }
}
