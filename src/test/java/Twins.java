import java.util.ArrayList;
import java.util.List;

/** Drums made several times in the same way: what a call does to one of them is seen beside another one. */
final class Twins {
    static final Class<IndexOutOfBoundsException> INDEX = IndexOutOfBoundsException.class;
    static final Class<IllegalArgumentException> ARGUMENT = IllegalArgumentException.class;
    static final Class<IllegalStateException> STATE = IllegalStateException.class;

    private static final int MOST_SAVED = 4;

    interface Maker {
        CamDrum make();
    }

    interface Call {
        void on(CamDrum drum);
    }

    interface NumberCall {
        void on(CamDrum drum, int number);
    }

    private Twins() {
    }

    /** A drum in which all has happened: 4 states are saved, each another one, and the text is not parsed yet. */
    static CamDrum busy() {
        CamDrum drum = Check.drumOf("n6;0:xx....;1:.xx...;2:x.x.x.;");
        drum.setCylinder(0, 3, 31, 5);
        drum.setAir(1200, 33);
        drum.addGuard(1, 0, 40);
        drum.addGuard(2, 1, 20);
        drum.setPawl(3, 1000);
        drum.run(44);
        drum.setCam(4, 5, true);
        drum.run(9);
        drum.turn(2);
        drum.run(5);
        Check.tell(drum, "n4;0:x..x;3:.xx.;");
        return drum;
    }

    static CamDrum busyWithSaved(int saved) {
        CamDrum drum = busy();
        for (int left = MOST_SAVED; left > saved; left--) {
            drum.undo();
        }
        return drum;
    }

    static CamDrum withGuards(int guards) {
        CamDrum drum = busy();
        drum.removeGuard(1);
        drum.removeGuard(0);
        for (int g = 0; g < guards; g++) {
            drum.addGuard(g, g + 1, 10 + g);
        }
        return drum;
    }

    static Maker withSteps(int steps) {
        return () -> Check.drumOf("n" + steps + ";");
    }

    /** The call throws just this exception and changes nothing, on a new drum and on a busy one. */
    static void refused(Class<? extends Exception> kind, Call call) {
        refusedOn(CamDrum::new, kind, call);
        refusedOn(Twins::busy, kind, call);
    }

    static void refusedOn(Maker maker, Class<? extends Exception> kind, Call call) {
        CamDrum called = maker.make();
        Check.same("what the call throws", Check.thrownBy(() -> call.on(called)), kind.getSimpleName());
        alike(called, maker);
    }

    /** The call throws nothing, on a new drum and on a busy one. */
    static void taken(Call call) {
        takenOn(CamDrum::new, call);
        takenOn(Twins::busy, call);
    }

    static void takenOn(Maker maker, Call call) {
        CamDrum drum = maker.make();
        Check.same("what the call throws", Check.thrownBy(() -> call.on(drum)), "nothing");
    }

    /** The ends of a range are taken; one less, one more, and what is far away is refused. */
    static void range(int least, int most, Class<? extends Exception> kind, NumberCall call) {
        rangeOn(CamDrum::new, least, most, kind, call);
        rangeOn(Twins::busy, least, most, kind, call);
    }

    static void rangeOn(Maker maker, int least, int most, Class<? extends Exception> kind, NumberCall call) {
        for (int number : new int[] {least, most}) {
            takenOn(maker, drum -> call.on(drum, number));
        }
        for (int number : new int[] {least - 1, most + 1, Integer.MIN_VALUE, Integer.MAX_VALUE}) {
            refusedOn(maker, kind, drum -> call.on(drum, number));
        }
    }

    /** A parameter that is a step of the drum, on drums of 2, 8 and 16 steps. */
    static void stepRange(NumberCall call) {
        for (int steps : new int[] {2, 8, 16}) {
            rangeOn(withSteps(steps), 0, steps - 1, INDEX, call);
        }
    }

    /** The call saves the state from before it, and of the saved ones drops the oldest if there were 4. */
    static void undoable(Call call) {
        for (int saved = 0; saved <= MOST_SAVED; saved++) {
            int before = saved;
            CamDrum called = busyWithSaved(before);
            call.on(called);
            int left = Math.min(before, MOST_SAVED - 1);
            Check.same("undo() with " + before + " states saved ahead of the call", called.undo(), left);
            List<Long> due = layers(busyWithSaved(before), before).subList(0, left + 1);
            Check.same("the states behind undo()", layers(called, left), due);
        }
    }

    /** The call leaves the state and all saved ones as they are. */
    static void changesNothing(Call call) {
        for (int saved = 0; saved <= MOST_SAVED; saved++) {
            int before = saved;
            changesNothingOn(() -> busyWithSaved(before), call);
        }
    }

    static void changesNothingOn(Maker maker, Call call) {
        CamDrum called = maker.make();
        call.on(called);
        alike(called, maker);
    }

    /** The call leaves the saved states as they are; the text may be another one behind it. */
    static void savesNothing(Call call) {
        for (int saved = 0; saved <= MOST_SAVED; saved++) {
            CamDrum called = busyWithSaved(saved);
            call.on(called);
            CamDrum other = busyWithSaved(saved);
            layers(called, saved);
            layers(other, saved);
            call.on(other);
            Check.same("the state behind the last undo()", called.digest(), other.digest());
        }
    }

    /** The drum is as one that has just been made so: its state, the saved ones, and the text. */
    private static void alike(CamDrum called, Maker maker) {
        CamDrum other = maker.make();
        int saved = saved(maker.make());
        Check.same("the state and the saved ones", layers(called, saved), layers(other, saved));
        Check.same("parse() of the text", called.parse(), other.parse());
        Check.same("digest() behind parse()", called.digest(), other.digest());
        Check.same("the length of the text", called.clearText(), other.clearText());
    }

    private static int saved(CamDrum drum) {
        int saved = 0;
        while (saved <= MOST_SAVED && Check.thrownBy(drum::undo).equals("nothing")) {
            saved++;
        }
        return saved;
    }

    /** The digests of the state and, one by one, of the saved ones; so many are saved, or the test fails. */
    private static List<Long> layers(CamDrum drum, int saved) {
        List<Long> layers = new ArrayList<>();
        for (int left = saved; left > 0; left--) {
            layers.add(digestWithoutSaved(drum, left));
            Check.same("undo()", drum.undo(), left - 1);
        }
        layers.add(digestWithoutSaved(drum, 0));
        Check.same("undo() without a saved state", Check.thrownBy(drum::undo), "IllegalStateException");
        return layers;
    }

    // The number of saved states is added last; without it, states that lie differently deep can be compared.
    private static long digestWithoutSaved(CamDrum drum, int saved) {
        return drum.digest() - saved;
    }
}
