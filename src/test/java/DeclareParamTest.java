import java.util.Arrays;

// Promise 3: declareParam sets one constructor's parameter and resets; a refused call changes nothing.
public final class DeclareParamTest {
    private static final Expect EXPECT = new Expect();

    public static void main(String[] args) {
        for (int scene = 0; scene < Scenes.COUNT; scene++) {
            for (int k = 1; k <= 3; k++) {
                for (int nullness = 0; nullness < 2; nullness++) {
                    for (int init = 0; init < 3; init++) {
                        taken(scene, k, nullness, init);
                    }
                }
            }
            refused(scene);
        }
        declarationBinds();
        EXPECT.end();
    }

    private static void taken(int scene, int k, int nullness, int init) {
        String what = Scenes.name(scene) + ", declareParam(" + k + ", " + nullness + ", " + init + ")";
        Subject x = Scenes.scene(scene);
        int[] due = Scenes.program(x);
        due[3 + k] = nullness;
        due[6 + k] = init;
        EXPECT.yes(what, x.declareParam(k, nullness, init));
        EXPECT.same(what, Arrays.toString(Scenes.program(x)), Arrays.toString(due));
        Scenes.wasReset(EXPECT, what, x);
    }

    private static void refused(int scene) {
        int low = Integer.MIN_VALUE;
        int high = Integer.MAX_VALUE;
        int[][] calls = {{0, 0, 0}, {4, 0, 0}, {-1, 0, 0}, {1, 2, 0}, {1, -1, 0}, {1, 0, 3}, {1, 0, -1}, {3, 0, 3},
            {low, 0, 0}, {high, 0, 0}, {2, low, 0}, {2, high, 0}, {2, 0, low}, {2, 0, high}};
        Subject x = Scenes.scene(scene);
        String before = x.picture();
        for (int[] call : calls) {
            String what = Scenes.name(scene) + ", declareParam" + Arrays.toString(call);
            EXPECT.no(what, x.declareParam(call[0], call[1], call[2]));
            EXPECT.same(what, x.picture(), before);
        }
    }

    // The declaration is not only shown: the checker and the machine both go by it.
    private static void declarationBinds() {
        for (int k = 1; k <= 3; k++) {
            Subject x = new Subject().make(0, k, 1);
            x.param(k, NullnessFlow.NONNULL, NullnessFlow.UNCLASSIFIED);
            EXPECT.same("NONNULL parameter: check", x.check(), NullnessFlow.ERR_NULLARG);
            EXPECT.same("NONNULL parameter: run", x.run(100), NullnessFlow.TRAP_NONNULL);
            EXPECT.same("NONNULL parameter: local 1 at entry", x.state(k, 0, 1), 4);
            x.param(k, NullnessFlow.NULLABLE, NullnessFlow.FREE);
            EXPECT.same("FREE parameter: check", x.check(), NullnessFlow.ERR_INITARG);
            EXPECT.same("FREE parameter: run", x.run(100), NullnessFlow.HALTED);
            EXPECT.same("FREE parameter: local 1 at entry", x.state(k, 0, 1), 3);
        }
    }
}
