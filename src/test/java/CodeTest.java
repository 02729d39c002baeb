// Promise 11: code answers the stored parts of an instruction, and NONE where there is none.
public final class CodeTest {
    private static final Expect EXPECT = new Expect();

    // Each op as it is given, with rubbish in what it does not use, and as it is stored.
    private static final int[][] GIVEN = {{0, 7, -9, 99}, {1, 6, 5, 99}, {2, 4, 3, 2}, {3, 1, 7, 3}, {4, 5, 2, 7},
        {5, 3, 31, -1}, {6, 2, 30, 88}, {7, 32, 77, -7}, {8, 99, -99, 9}, {9, 6, -1, 50}};
    private static final int[][] STORED = {{0, 7, 0, 0}, {1, 6, 5, 0}, {2, 4, 3, 2}, {3, 1, 7, 3}, {4, 5, 2, 7},
        {5, 3, 31, 0}, {6, 2, 30, 0}, {7, 32, 0, 0}, {8, 0, 0, 0}, {9, 6, 0, 0}};

    public static void main(String[] args) {
        stored();
        noSuchBlock();
        noSuchPc();
        emptyAndFull();
        noSuchPart();
        changesNothing();
        EXPECT.end();
    }

    private static Subject written(int block) {
        Subject x = new Subject().in(block);
        for (int[] g : GIVEN) {
            EXPECT.yes("emit", x.emit(g[0], g[1], g[2], g[3]));
        }
        return x;
    }

    private static void none(Subject x, int block, int pc, int part) {
        Scenes.answerNone(EXPECT, "code(" + block + ", " + pc + ", " + part + ")", x, y -> y.code(block, pc, part));
    }

    private static void stored() {
        EXPECT.sentence("Answers the stored part (0 op, 1 a, 2 b, 3 c) of the instruction at pc in block,"
                + " with unused operands as 0.");
        for (int block = 0; block < 4; block++) {
            Subject x = written(block);
            for (int round = 0; round < 2; round++) {
                for (int pc = 0; pc < STORED.length; pc++) {
                    for (int part = 0; part < 4; part++) {
                        String call = "code(" + block + ", " + pc + ", " + part + ")";
                        EXPECT.same(call, x.code(block, pc, part), STORED[pc][part]);
                    }
                }
                // The second round sees the code after a check and a run.
                x.check();
                x.run(20);
            }
        }
    }

    private static void noSuchBlock() {
        EXPECT.sentence("Answers NONE unless block is in 0..3");
        Subject x = new Subject();
        for (int block = 0; block < 4; block++) {
            x.in(block).pad(32);
        }
        for (int block : Beyond.range(0, 3)) {
            for (int pc : new int[] {0, 31, 32, -32, -128, 128}) {
                none(x, block, pc, 0);
            }
        }
    }

    private static void noSuchPc() {
        EXPECT.sentence("pc is in 0..len-1");
        for (int block = 0; block < 4; block++) {
            Subject x = new Subject();
            for (int other = 0; other < 4; other++) {
                x.in(other).pad(other == block ? 0 : 32);
            }
            x.in(block);
            for (int len = 0; len <= 32; len += 4) {
                for (int pc = 0; pc < len; pc++) {
                    EXPECT.same("code(" + block + ", " + pc + ", 1)", x.code(block, pc, 1), 7);
                }
                for (int pc : Beyond.range(0, len - 1)) {
                    none(x, block, pc, 1);
                }
                x.pad(len < 32 ? 4 : 0);
            }
        }
    }

    private static void emptyAndFull() {
        Subject x = new Subject(8, 8, 1).in(2).pad(7).show(5);
        for (int block = 0; block < 4; block++) {
            for (int part = 0; part < 4; part++) {
                if (block != 2) {
                    none(x, block, 0, part);
                }
            }
        }
        EXPECT.same("the first of a full block", x.code(2, 0, 1), 7);
        EXPECT.same("the last of a full block", x.code(2, 7, 1), 5);
        none(x, 2, 8, 1);
    }

    private static void noSuchPart() {
        EXPECT.sentence("and part is in 0..3.");
        Subject x = written(1);
        for (int part : Beyond.range(0, 3)) {
            for (int pc = 0; pc < STORED.length; pc++) {
                none(x, 1, pc, part);
            }
        }
    }

    private static void changesNothing() {
        EXPECT.sentence("Changes nothing.");
        for (int block = 0; block < 4; block++) {
            for (int part = 0; part < 4; part++) {
                int b = block;
                int p = part;
                Scenes.leaveAll(EXPECT, "code(" + b + ", 0, " + p + ")", x -> x.code(b, 0, p));
            }
        }
    }
}
