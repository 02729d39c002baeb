// Promise 1: the three sizes are clamped, and a new object is fresh.
public final class ConstructionTest {
    private static final int LOW = Integer.MIN_VALUE;
    private static final int HIGH = Integer.MAX_VALUE;

    private static final Expect EXPECT = new Expect();

    public static void main(String[] args) {
        fresh();
        int[][] sizes = {{LOW, 8}, {-1, 8}, {0, 8}, {7, 8}, {8, 8}, {9, 9}, {31, 31}, {32, 32}, {33, 32}, {HIGH, 32}};
        for (int[] size : sizes) {
            codeCap(size[0], size[1]);
            heapCap(size[0], size[1]);
        }
        int[][] depths = {{LOW, 1}, {-1, 1}, {0, 1}, {1, 1}, {2, 2}, {7, 7}, {8, 8}, {9, 8}, {HIGH, 8}};
        for (int[] depth : depths) {
            maxDepth(depth[0], depth[1]);
        }
        EXPECT.end();
    }

    private static void fresh() {
        Subject x = new Subject(16, 16, 4);
        int[] due = {1, 1, 1, 1, 1, 1, 1, 0, 0, 0, 0, 0, 0, 0, 0,
            NullnessFlow.UNCHECKED, NullnessFlow.NOT_READY, 0, 0, 0};
        for (int k = 0; k < due.length; k++) {
            EXPECT.same("fresh info(" + k + ")", x.info(k), due[k]);
        }
        EXPECT.same("fresh errorWhere", x.errorWhere(), -1);
        EXPECT.same("fresh state", x.state(0, 0, 0), NullnessFlow.NONE);
        EXPECT.same("fresh code", x.code(0, 0, 0), NullnessFlow.NONE);
        EXPECT.same("fresh frame", x.frame(0, 0), NullnessFlow.NONE);
        EXPECT.same("fresh field", x.field(0, 0), NullnessFlow.NONE);
        EXPECT.same("fresh out", x.out(0), NullnessFlow.NONE);
        EXPECT.same("fresh run", x.run(5), NullnessFlow.NOT_READY);
        EXPECT.same("fresh check", x.check(), NullnessFlow.OK);
    }

    private static void codeCap(int given, int due) {
        for (int block = 0; block < 4; block++) {
            Subject x = new Subject(given, 16, 4).in(block);
            EXPECT.no("codeCap " + given + ": target above", x.emit(NullnessFlow.JMP, due + 1, 0, 0));
            EXPECT.yes("codeCap " + given + ": target at most", x.emit(NullnessFlow.JMP, due, 0, 0));
            int taken = 1;
            for (int i = 0; i < 40; i++) {
                taken += x.emit(NullnessFlow.OUT, i % 8, 0, 0) ? 1 : 0;
            }
            EXPECT.same("codeCap " + given + ": instructions in block " + block, taken, due);
            EXPECT.same("codeCap " + given + ": len of block " + block, x.info(10 + block), due);
        }
    }

    private static void heapCap(int given, int due) {
        Subject x = new Subject(16, given, 4).make(0, 1, 0).jump(0);
        x.check();
        EXPECT.same("heapCap " + given + ": status", x.run(10000), NullnessFlow.TRAP_HEAP);
        EXPECT.same("heapCap " + given + ": objects", x.info(17), due);
    }

    private static void maxDepth(int given, int due) {
        Subject x = new Subject(16, 16, given).make(0, 1, 0).in(1).make(2, 1, 1);
        x.check();
        EXPECT.same("maxDepth " + given + ": status", x.run(10000), NullnessFlow.TRAP_DEPTH);
        EXPECT.same("maxDepth " + given + ": frames", x.info(19), due);
        EXPECT.same("maxDepth " + given + ": objects", x.info(17), due - 1);
    }
}
