import java.util.Arrays;

// Promise 2: declareField sets one kind and resets; a refused call changes nothing.
public final class DeclareFieldTest {
    private static final Expect EXPECT = new Expect();

    public static void main(String[] args) {
        Scenes.asNamed(EXPECT);
        sets();
        noSuchField();
        noSuchKind();
        resets();
        nothingElse();
        EXPECT.end();
    }

    private static void sets() {
        EXPECT.sentence("Sets the kind of field f and answers true.");
        for (int f = 0; f < 4; f++) {
            Subject x = new Subject().make(0, 1, 0).get(1, 0, f);
            for (int kind : new int[] {NullnessFlow.NONNULL, NullnessFlow.NULLABLE}) {
                boolean nullable = kind == NullnessFlow.NULLABLE;
                EXPECT.yes("declareField(" + f + ", " + kind + ")", x.declareField(f, kind));
                EXPECT.same("kind of field " + f, x.info(f), kind);
                // The kind is not only shown: the checker and the machine both go by it.
                EXPECT.same("check", x.check(), nullable ? NullnessFlow.OK : NullnessFlow.ERR_INCOMPLETE);
                EXPECT.same("run", x.run(100), nullable ? NullnessFlow.HALTED : NullnessFlow.TRAP_NONNULL);
            }
        }
    }

    private static void noSuchField() {
        EXPECT.sentence("Refused (false, nothing changes) unless f is in 0..3");
        for (int f : Beyond.range(0, 3)) {
            for (int kind = 0; kind < 2; kind++) {
                refuse(f, kind);
            }
        }
    }

    private static void noSuchKind() {
        EXPECT.sentence("and kind is NONNULL or NULLABLE.");
        for (int kind : Beyond.range(NullnessFlow.NONNULL, NullnessFlow.NULLABLE)) {
            for (int f = -1; f <= 4; f++) {
                refuse(f, kind);
            }
        }
    }

    private static void refuse(int f, int kind) {
        Scenes.refuse(EXPECT, "declareField(" + f + ", " + kind + ")", x -> x.declareField(f, kind));
    }

    private static void resets() {
        EXPECT.sentence("On success the Edits reset applies, even if the kind was already that value.");
        for (int scene = 0; scene < Scenes.COUNT; scene++) {
            for (int f = 0; f < 4; f++) {
                for (int change = 0; change < 2; change++) {
                    Subject x = Scenes.scene(scene);
                    int kind = x.info(f) ^ change;
                    String what = Scenes.name(scene) + ", declareField(" + f + ", " + kind + ")";
                    EXPECT.yes(what, x.declareField(f, kind));
                    Scenes.wasReset(EXPECT, what, x);
                }
            }
        }
    }

    private static void nothingElse() {
        EXPECT.sentence("Nothing else changes: parameters, code and the selected block stay.");
        for (int scene = 0; scene < Scenes.COUNT; scene++) {
            for (int block = 0; block < 4; block++) {
                for (int f = 0; f < 4; f++) {
                    Subject x = Scenes.scene(scene).in(block);
                    int[] due = Scenes.program(x);
                    due[f] = NullnessFlow.NULLABLE - due[f];
                    x.declareField(f, due[f]);
                    String what = Scenes.name(scene) + ", declareField(" + f + ", " + due[f] + ")";
                    EXPECT.same(what, Arrays.toString(Scenes.program(x)), Arrays.toString(due));
                }
            }
        }
    }
}
