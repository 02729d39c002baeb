import java.util.Arrays;

// Promise 2: declareField sets one kind and resets; a refused call changes nothing.
public final class DeclareFieldTest {
    private static final Expect EXPECT = new Expect();

    public static void main(String[] args) {
        Scenes.asNamed(EXPECT);
        for (int scene = 0; scene < Scenes.COUNT; scene++) {
            taken(scene);
            refused(scene);
        }
        kindBinds();
        EXPECT.end();
    }

    private static void taken(int scene) {
        for (int f = 0; f < 4; f++) {
            for (int kind = 0; kind < 2; kind++) {
                String what = Scenes.name(scene) + ", declareField(" + f + ", " + kind + ")";
                Subject x = Scenes.scene(scene);
                int[] due = Scenes.program(x);
                due[f] = kind;
                EXPECT.yes(what, x.declareField(f, kind));
                EXPECT.same(what, Arrays.toString(Scenes.program(x)), Arrays.toString(due));
                Scenes.wasReset(EXPECT, what, x);
            }
        }
    }

    private static void refused(int scene) {
        int[][] calls = {{4, 0}, {4, 1}, {-1, 0}, {-1, 1}, {0, 2}, {0, -1}, {3, 2}, {Integer.MIN_VALUE, 0},
            {Integer.MAX_VALUE, 1}, {1, Integer.MIN_VALUE}, {1, Integer.MAX_VALUE}};
        Subject x = Scenes.scene(scene);
        String before = x.picture();
        for (int[] call : calls) {
            String what = Scenes.name(scene) + ", declareField(" + call[0] + ", " + call[1] + ")";
            EXPECT.no(what, x.declareField(call[0], call[1]));
            EXPECT.same(what, x.picture(), before);
        }
    }

    // The kind is not only shown: the checker and the machine both go by it, and it can be taken back.
    private static void kindBinds() {
        Subject x = new Subject().make(0, 1, 0).get(1, 0, 3);
        EXPECT.same("field 3 NULLABLE: check", x.check(), NullnessFlow.OK);
        EXPECT.same("field 3 NULLABLE: run", x.run(100), NullnessFlow.HALTED);
        x.declareField(3, NullnessFlow.NONNULL);
        EXPECT.same("field 3 NONNULL: check", x.check(), NullnessFlow.ERR_INCOMPLETE);
        EXPECT.same("field 3 NONNULL: run", x.run(100), NullnessFlow.TRAP_NONNULL);
        x.declareField(3, NullnessFlow.NULLABLE);
        EXPECT.same("field 3 NULLABLE again: check", x.check(), NullnessFlow.OK);
        EXPECT.same("field 3 NULLABLE again: run", x.run(100), NullnessFlow.HALTED);
    }
}
