import java.util.function.Predicate;

// The section "Edits": what every edit resets, and that a refused call changes nothing.
public final class EditsTest {
    private static final Expect EXPECT = new Expect();

    public static void main(String[] args) {
        resets();
        changesNoValue();
        leavesNothing();
        refused();
        EXPECT.end();
    }

    private static void eachEdit(String what, Predicate<Subject> edit) {
        for (int scene = 0; scene < Scenes.COUNT; scene++) {
            Subject x = Scenes.scene(scene);
            EXPECT.yes(Scenes.name(scene) + ", " + what, edit.test(x));
            Scenes.wasReset(EXPECT, Scenes.name(scene) + ", " + what, x);
        }
        for (int status = Endings.FIRST; status <= Endings.LAST; status++) {
            Subject x = Endings.ended(status).in(3);
            EXPECT.yes("ended with " + status + ", " + what, edit.test(x));
            Scenes.wasReset(EXPECT, "ended with " + status + ", " + what, x);
        }
    }

    private static void resets() {
        EXPECT.sentence("A successful declareField, declareParam or emit (even one that changes no value) makes the"
                + " checker UNCHECKED and the machine NOT_READY, with no objects, no output and no frames.");
        eachEdit("declareField", x -> x.declareField(3, 1 - x.info(3)));
        eachEdit("declareParam", x -> x.declareParam(3, 1 - x.info(6), 2 - x.info(9)));
        eachEdit("emit", x -> x.emit(NullnessFlow.NEW, 7, 3, 7));
    }

    private static void changesNoValue() {
        EXPECT.sentence("(even one that changes no value)");
        for (int f = 0; f < 4; f++) {
            int same = f;
            eachEdit("declareField as it is", x -> x.declareField(same, x.info(same)));
        }
        for (int k = 1; k <= 3; k++) {
            int same = k;
            eachEdit("declareParam as it is", x -> x.declareParam(same, x.info(3 + same), x.info(6 + same)));
        }
        // Nothing calls constructor 3, and its END stays its END.
        eachEdit("emit of what does nothing", x -> x.in(3).emit(NullnessFlow.RET, 0, 0, 0));
    }

    // After the next check nothing of what was before the edit is left.
    private static void leavesNothing() {
        EXPECT.sentence("with no objects, no output and no frames.");
        for (int scene = 0; scene < Scenes.COUNT; scene++) {
            Subject x = Scenes.scene(scene);
            x.declareField(0, x.info(0));
            for (int i = 0; i <= 32; i++) {
                EXPECT.same("object " + i, x.field(i, 0), NullnessFlow.NONE);
                EXPECT.same("output " + i, x.out(i), NullnessFlow.NONE);
                EXPECT.same("frame " + i, x.frame(i, 8), NullnessFlow.NONE);
            }
            x.check();
            EXPECT.same("objects after check", x.info(17), 0);
            EXPECT.same("outputs after check", x.info(18), 0);
            EXPECT.same("frames after check", x.info(19), 1);
        }
    }

    private static void refused() {
        EXPECT.sentence("A refused call answers false and changes nothing.");
        Scenes.refuse(EXPECT, "declareField", x -> x.declareField(4, NullnessFlow.NONNULL));
        Scenes.refuse(EXPECT, "declareField", x -> x.declareField(0, 2));
        Scenes.refuse(EXPECT, "declareParam", x -> x.declareParam(0, NullnessFlow.NONNULL, NullnessFlow.FREE));
        Scenes.refuse(EXPECT, "declareParam", x -> x.declareParam(1, 2, NullnessFlow.FREE));
        Scenes.refuse(EXPECT, "declareParam", x -> x.declareParam(1, NullnessFlow.NONNULL, 3));
        Scenes.refuse(EXPECT, "select", x -> x.select(4));
        Scenes.refuse(EXPECT, "emit", x -> x.emit(10, 0, 0, 0));
        Scenes.refuse(EXPECT, "emit", x -> x.emit(NullnessFlow.NULL, 8, 0, 0));
        Scenes.refuse(EXPECT, "emit into a full block", Scenes.scene(6).in(0), x -> x.emit(NullnessFlow.RET, 0, 0, 0));
        // The run goes on after refused calls as if there had been none.
        Subject quiet = Scenes.scene(2);
        Subject noisy = Scenes.scene(2);
        for (int i = 0; i < 20; i++) {
            noisy.declareField(-1, NullnessFlow.NONNULL);
            noisy.declareParam(4, NullnessFlow.NONNULL, NullnessFlow.FREE);
            noisy.select(-1);
            noisy.emit(NullnessFlow.NEW, 0, 0, 0);
            EXPECT.same("run", noisy.run(1), quiet.run(1));
            EXPECT.same("picture", noisy.picture(), quiet.picture());
        }
    }
}
