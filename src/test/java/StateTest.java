// Promise 8: state answers the SOLUTION at a point, or NONE or -1. What the SOLUTION is, is tested in SolutionTest.
public final class StateTest {
    private static final int NONE = NullnessFlow.NONE;

    private static final Expect EXPECT = new Expect();

    public static void main(String[] args) {
        unchecked();
        noSuchBlock();
        noSuchPoint();
        noSuchLocal();
        unreached();
        everyTriple();
        acceptedAndRejected();
        changesNothing();
        EXPECT.end();
    }

    // Blocks 0 to 3 with 0, 1, 2 and 32 instructions, so that each has another END.
    private static Subject fourLengths() {
        Subject x = new Subject().in(1).pad(1).in(2).pad(2).in(3).pad(32);
        x.check();
        return x;
    }

    private static int len(int block) {
        return block == 3 ? 32 : block;
    }

    private static void none(Subject x, int block, int pc, int local) {
        Scenes.answerNone(EXPECT, "state(" + block + ", " + pc + ", " + local + ")", x, y -> y.state(block, pc, local));
    }

    private static void unchecked() {
        EXPECT.sentence("Answers NONE if the checker is UNCHECKED");
        Subject empty = new Subject();
        none(empty, 0, 0, 0);
        Subject x = fourLengths();
        for (int edit = 0; edit < 3; edit++) {
            x.check();
            EXPECT.same("checked", x.state(3, 32, 7), 1);
            switch (edit) {
                case 0 -> x.nonNullField(0);
                case 1 -> x.param(1, NullnessFlow.NONNULL, NullnessFlow.FREE);
                default -> x.in(0).nil(0);
            }
            for (int block = 0; block < 4; block++) {
                for (int local = 0; local < 8; local++) {
                    none(x, block, 0, local);
                    none(x, block, len(block), local);
                }
            }
        }
    }

    private static void noSuchBlock() {
        EXPECT.sentence("block is not in 0..3");
        for (int block : Beyond.range(0, 3)) {
            for (int pc : new int[] {0, 32, 33, -33, -132, 132}) {
                none(fourLengths(), block, pc, 0);
            }
        }
    }

    private static void noSuchPoint() {
        EXPECT.sentence("pc is not in 0..len of that block");
        Subject x = fourLengths();
        for (int block = 0; block < 4; block++) {
            for (int pc = 0; pc <= len(block); pc++) {
                EXPECT.same("block " + block + ", point " + pc, x.state(block, pc, 7), 1);
            }
            for (int pc : Beyond.range(0, len(block))) {
                none(x, block, pc, 7);
            }
        }
    }

    private static void noSuchLocal() {
        EXPECT.sentence("or local is not in 0..7.");
        Subject x = fourLengths();
        for (int block = 0; block < 4; block++) {
            for (int local : Beyond.range(0, 7)) {
                none(x, block, 0, local);
                none(x, block, len(block), local);
            }
        }
        // A wrong local at an unreached point is still a wrong local.
        Subject y = new Subject().ret().nil(0);
        y.check();
        none(y, 0, 1, -1);
        none(y, 0, 1, 8);
    }

    private static void unreached() {
        EXPECT.sentence("Answers -1 if the point is UNREACHED.");
        for (int block = 0; block < 4; block++) {
            Subject x = new Subject().in(block).pad(30).jump(30).nil(0);
            x.check();
            for (int local = 0; local < 8; local++) {
                String what = "block " + block + ", local " + local;
                EXPECT.no("reached: " + what, x.state(block, 30, local) == -1);
                EXPECT.same("point behind a jump to itself: " + what, x.state(block, 31, local), -1);
                EXPECT.same("END: " + what, x.state(block, 32, local), -1);
            }
        }
    }

    private static void everyTriple() {
        EXPECT.sentence("Else answers n + 2 * i + 8 * F for the local's triple, with F as a 4-bit number"
                + " (so the answer is in 0..125).");
        for (int n = 0; n < 2; n++) {
            for (int i = 0; i < 3; i++) {
                for (int fields = 0; fields < 16; fields++) {
                    Subject x = new Subject().param(1, n, i).in(1);
                    for (int f = 0; f < 4; f++) {
                        if ((fields >> f & 1) == 1) {
                            x.put(1, f, 0);
                        }
                    }
                    x.check();
                    int end = Integer.bitCount(fields);
                    EXPECT.same("(" + n + ", " + i + ", " + fields + ")", x.state(1, end, 1), n + 2 * i + 8 * fields);
                }
            }
        }
    }

    private static void acceptedAndRejected() {
        EXPECT.sentence("Available both when ACCEPTED and when REJECTED.");
        int[] due = {NONE, 1, 1, 1, 1, NONE, 1};
        for (int scene = 0; scene < Scenes.COUNT; scene++) {
            EXPECT.same(Scenes.name(scene), Scenes.scene(scene).state(0, 0, 0), due[scene]);
        }
        Subject x = new Subject().get(0, 0, 0).make(3, 1, 4).in(3).nil(0);
        EXPECT.same("rejected", x.check(), NullnessFlow.ERR_DEREF);
        EXPECT.same("at the reported error", x.state(0, 0, 0), 1);
        EXPECT.same("beyond the reported error", x.state(0, 2, 3), 0);
        EXPECT.same("in a later block", x.state(3, 1, 0), 1);
        x.run(10);
        EXPECT.same("after a trap", x.state(0, 2, 3), 0);
    }

    private static void changesNothing() {
        EXPECT.sentence("Changes nothing.");
        for (int block = 0; block < 4; block++) {
            for (int local = 0; local < 8; local++) {
                int b = block;
                int l = local;
                Scenes.leaveAll(EXPECT, "state(" + b + ", 0, " + l + ")", x -> x.state(b, 0, l));
            }
        }
    }
}
