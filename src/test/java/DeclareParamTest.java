import java.util.Arrays;

// Promise 3: declareParam sets one constructor's parameter and resets; a refused call changes nothing.
public final class DeclareParamTest {
    private static final int COMMITTED = NullnessFlow.COMMITTED;
    private static final int UNCLASSIFIED = NullnessFlow.UNCLASSIFIED;

    private static final Expect EXPECT = new Expect();

    // A test of one declaration, met in every scene.
    private interface Each {
        void test(String what, Subject x, int k, int nullness, int init);
    }

    public static void main(String[] args) {
        EXPECT.sentence("Sets constructor k's parameter declaration to (nullness, init) and answers true.");
        each(DeclareParamTest::sets);
        binds();
        noSuchConstructor();
        noSuchNullness();
        noSuchInit();
        EXPECT.sentence("On success the Edits reset applies, even if nothing changed in value.");
        each(DeclareParamTest::resets);
        EXPECT.sentence("Fields, code and the selected block stay.");
        each(DeclareParamTest::nothingElse);
        EXPECT.end();
    }

    private static void each(Each each) {
        for (int scene = 0; scene < Scenes.COUNT; scene++) {
            for (int k = 1; k <= 3; k++) {
                for (int declaration = 0; declaration < 6; declaration++) {
                    int nullness = declaration % 2;
                    int init = declaration / 2;
                    String what = Scenes.name(scene) + ", declareParam(" + k + ", " + nullness + ", " + init + ")";
                    each.test(what, Scenes.scene(scene), k, nullness, init);
                }
            }
        }
    }

    private static void sets(String what, Subject x, int k, int nullness, int init) {
        EXPECT.yes(what, x.declareParam(k, nullness, init));
        EXPECT.same(what + ": nullness", x.info(3 + k), nullness);
        EXPECT.same(what + ": init", x.info(6 + k), init);
        x.check();
        EXPECT.same(what + ": entry", x.state(k, 0, 1), nullness + 2 * init);
    }

    // The declaration is not only shown: the checker and the machine both go by it.
    private static void binds() {
        for (int k = 1; k <= 3; k++) {
            Subject x = new Subject().make(0, k, 1);
            x.param(k, NullnessFlow.NONNULL, UNCLASSIFIED);
            EXPECT.same("NONNULL parameter: check", x.check(), NullnessFlow.ERR_NULLARG);
            EXPECT.same("NONNULL parameter: run", x.run(100), NullnessFlow.TRAP_NONNULL);
            x.param(k, NullnessFlow.NULLABLE, NullnessFlow.FREE);
            EXPECT.same("FREE parameter: check", x.check(), NullnessFlow.ERR_INITARG);
            EXPECT.same("FREE parameter: run", x.run(100), NullnessFlow.HALTED);
        }
    }

    private static void noSuchConstructor() {
        EXPECT.sentence("Refused unless k is in 1..3");
        for (int k : Beyond.range(1, 3)) {
            refuse(k, NullnessFlow.NONNULL, COMMITTED);
            refuse(k, NullnessFlow.NULLABLE, UNCLASSIFIED);
        }
    }

    private static void noSuchNullness() {
        EXPECT.sentence("nullness is in 0..1");
        for (int nullness : Beyond.range(0, 1)) {
            refuse(1, nullness, COMMITTED);
            refuse(3, nullness, UNCLASSIFIED);
        }
    }

    private static void noSuchInit() {
        EXPECT.sentence("and init is in 0..2.");
        for (int init : Beyond.range(0, 2)) {
            refuse(1, NullnessFlow.NONNULL, init);
            refuse(3, NullnessFlow.NULLABLE, init);
            refuse(0, 2, init);
        }
    }

    private static void refuse(int k, int nullness, int init) {
        String what = "declareParam(" + k + ", " + nullness + ", " + init + ")";
        Scenes.refuse(EXPECT, what, x -> x.declareParam(k, nullness, init));
    }

    // Of the six declarations one is what the scene already holds.
    private static void resets(String what, Subject x, int k, int nullness, int init) {
        EXPECT.yes(what, x.declareParam(k, nullness, init));
        Scenes.wasReset(EXPECT, what, x);
    }

    private static void nothingElse(String what, Subject x, int k, int nullness, int init) {
        x.in(k);
        int[] due = Scenes.program(x);
        due[3 + k] = nullness;
        due[6 + k] = init;
        x.declareParam(k, nullness, init);
        EXPECT.same(what, Arrays.toString(Scenes.program(x)), Arrays.toString(due));
    }
}
