import java.util.Arrays;

// Promise 11: code answers the stored parts of an instruction, and NONE where there is none.
public final class CodeTest {
    private static final Expect EXPECT = new Expect();

    // Each op as it is given, with rubbish in what it does not use, and as it is stored.
    private static final int[][] GIVEN = {{0, 7, -9, 99}, {1, 6, 5, 99}, {2, 4, 3, 2}, {3, 1, 7, 3}, {4, 5, 2, 7},
        {5, 3, 31, -1}, {6, 2, 30, 88}, {7, 32, 77, -7}, {8, 99, -99, 9}, {9, 6, -1, 50}};
    private static final int[][] STORED = {{0, 7, 0, 0}, {1, 6, 5, 0}, {2, 4, 3, 2}, {3, 1, 7, 3}, {4, 5, 2, 7},
        {5, 3, 31, 0}, {6, 2, 30, 0}, {7, 32, 0, 0}, {8, 0, 0, 0}, {9, 6, 0, 0}};

    public static void main(String[] args) {
        for (int block = 0; block < 4; block++) {
            stored(block);
        }
        none();
        EXPECT.end();
    }

    private static void stored(int block) {
        Subject x = new Subject().in(block);
        for (int[] g : GIVEN) {
            EXPECT.yes("emit", x.emit(g[0], g[1], g[2], g[3]));
        }
        for (int round = 0; round < 2; round++) {
            for (int pc = 0; pc < STORED.length; pc++) {
                for (int part = 0; part < 4; part++) {
                    String call = "code(" + block + ", " + pc + ", " + part + ")";
                    EXPECT.same(call, x.code(block, pc, part), STORED[pc][part]);
                }
            }
            // The second round sees the code after a check and a run.
            x.check();
            x.run(20);
        }
        EXPECT.same("other block", x.code((block + 1) % 4, 0, 0), NullnessFlow.NONE);
    }

    private static void none() {
        int low = Integer.MIN_VALUE;
        int high = Integer.MAX_VALUE;
        Subject x = new Subject().show(1).show(2).in(3).show(3);
        String before = x.picture();
        int[][] calls = {{-1, 0, 0}, {4, 0, 0}, {0, -1, 0}, {0, 2, 0}, {1, 0, 0}, {3, 1, 0}, {0, 0, -1}, {0, 0, 4},
            {low, 0, 0}, {high, 0, 0}, {0, low, 0}, {0, high, 0}, {0, 0, low}, {0, 0, high}};
        for (int[] call : calls) {
            EXPECT.same("code" + Arrays.toString(call), x.code(call[0], call[1], call[2]), NullnessFlow.NONE);
        }
        EXPECT.same("the last one", x.code(0, 1, 1), 2);
        EXPECT.same("picture", x.picture(), before);
        Subject full = new Subject();
        for (int i = 0; i < 32; i++) {
            full.show(i % 8);
        }
        EXPECT.same("the last of a full block", full.code(0, 31, 1), 7);
        EXPECT.same("beyond a full block", full.code(0, 32, 1), NullnessFlow.NONE);
    }
}
