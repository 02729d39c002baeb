// Promise 1: the three sizes are clamped, and a new object is fresh.
public final class ConstructionTest {
    private static final int LOW = Integer.MIN_VALUE;
    private static final int HIGH = Integer.MAX_VALUE;

    private static final Expect EXPECT = new Expect();

    public static void main(String[] args) {
        kept();
        tooSmall();
        tooLarge();
        anyInt();
        fields();
        parameters();
        blocks();
        selection();
        checker();
        machine();
        EXPECT.end();
    }

    private static void kept() {
        EXPECT.sentence("codeCap is in 8..32, heapCap in 8..32, maxDepth in 1..8.");
        for (int size = 8; size <= 32; size++) {
            codeCap(size, size);
            heapCap(size, size);
        }
        for (int depth = 1; depth <= 8; depth++) {
            maxDepth(depth, depth);
        }
    }

    private static void tooSmall() {
        EXPECT.sentence("below the least becomes the least");
        for (int size : new int[] {7, 6, 1, 0, -1, -8, -9}) {
            codeCap(size, 8);
            heapCap(size, 8);
        }
        for (int depth : new int[] {0, -1, -2, -8}) {
            maxDepth(depth, 1);
        }
    }

    private static void tooLarge() {
        EXPECT.sentence("above the greatest becomes the greatest");
        for (int size : new int[] {33, 34, 40, 64, 256, 264, 1 << 16}) {
            codeCap(size, 32);
            heapCap(size, 32);
        }
        for (int depth : new int[] {9, 10, 16, 32, 257, 1 << 16}) {
            maxDepth(depth, 8);
        }
    }

    private static void anyInt() {
        EXPECT.sentence("(any int, including Integer.MIN_VALUE and Integer.MAX_VALUE)");
        for (int low : new int[] {LOW, LOW + 1, LOW + 8}) {
            codeCap(low, 8);
            heapCap(low, 8);
            maxDepth(low, 1);
        }
        for (int high : new int[] {HIGH, HIGH - 1}) {
            codeCap(high, 32);
            heapCap(high, 32);
            maxDepth(high, 8);
        }
        // Each is clamped for itself, whatever the other two are.
        codeCap(new Subject(LOW, HIGH, HIGH), "code least, others greatest", 8);
        codeCap(new Subject(HIGH, LOW, LOW), "code greatest, others least", 32);
        heapCap(new Subject(HIGH, LOW, HIGH), "heap least, others greatest", 8);
        heapCap(new Subject(LOW, HIGH, 2), "heap greatest, others small", 32);
        maxDepth(new Subject(HIGH, HIGH, LOW), "depth least, others greatest", 1);
        maxDepth(new Subject(LOW, LOW, HIGH), "depth greatest, others least", 8);
    }

    private static void codeCap(int given, int due) {
        codeCap(new Subject(given, 16, 4), "codeCap " + given, due);
    }

    // The cap is both the greatest target and the number of instructions in each block.
    private static void codeCap(Subject x, String what, int due) {
        for (int block = 0; block < 4; block++) {
            x.in(block);
            EXPECT.no(what + ": target above", x.emit(NullnessFlow.JMP, due + 1, 0, 0));
            EXPECT.yes(what + ": target at most", x.emit(NullnessFlow.JMP, due, 0, 0));
            int taken = 1;
            for (int i = 0; i < 40; i++) {
                taken += x.emit(NullnessFlow.OUT, i % 8, 0, 0) ? 1 : 0;
            }
            EXPECT.same(what + ": instructions in block " + block, taken, due);
            EXPECT.same(what + ": len of block " + block, x.info(10 + block), due);
        }
    }

    private static void heapCap(int given, int due) {
        heapCap(new Subject(16, given, 4), "heapCap " + given, due);
    }

    private static void heapCap(Subject x, String what, int due) {
        x.make(0, 1, 0).jump(0).check();
        EXPECT.same(what + ": status", x.run(10000), NullnessFlow.TRAP_HEAP);
        EXPECT.same(what + ": objects", x.info(17), due);
    }

    private static void maxDepth(int given, int due) {
        maxDepth(new Subject(16, 16, given), "maxDepth " + given, due);
    }

    private static void maxDepth(Subject x, String what, int due) {
        x.make(0, 1, 0).in(1).make(2, 1, 1).check();
        EXPECT.same(what + ": status", x.run(10000), NullnessFlow.TRAP_DEPTH);
        EXPECT.same(what + ": frames", x.info(19), due);
        EXPECT.same(what + ": objects", x.info(17), due - 1);
    }

    // What is fresh must not hang on the sizes.
    private static Subject[] fresh() {
        return new Subject[] {new Subject(16, 16, 4), new Subject(LOW, LOW, LOW), new Subject(HIGH, HIGH, HIGH)};
    }

    private static void fields() {
        EXPECT.sentence("Fresh: all fields NULLABLE");
        for (Subject x : fresh()) {
            for (int f = 0; f < 4; f++) {
                EXPECT.same("kind of field " + f, x.info(f), NullnessFlow.NULLABLE);
            }
            EXPECT.same("constructors have nothing to complete", x.check(), NullnessFlow.OK);
        }
    }

    private static void parameters() {
        EXPECT.sentence("all parameters (NULLABLE, COMMITTED)");
        for (Subject x : fresh()) {
            x.check();
            for (int k = 1; k <= 3; k++) {
                EXPECT.same("nullness of parameter " + k, x.info(3 + k), NullnessFlow.NULLABLE);
                EXPECT.same("init of parameter " + k, x.info(6 + k), NullnessFlow.COMMITTED);
                EXPECT.same("entry of constructor " + k, x.state(k, 0, 1), 1);
            }
        }
    }

    private static void blocks() {
        EXPECT.sentence("all blocks empty (len 0)");
        for (Subject x : fresh()) {
            for (int block = 0; block < 4; block++) {
                EXPECT.same("len of block " + block, x.info(10 + block), 0);
                EXPECT.same("code of block " + block, x.code(block, 0, 0), NullnessFlow.NONE);
            }
            x.check();
            EXPECT.same("one step", x.run(1), NullnessFlow.HALTED);
        }
    }

    private static void selection() {
        EXPECT.sentence("block 0 selected");
        for (Subject x : fresh()) {
            EXPECT.same("selected", x.info(14), 0);
            x.nil(0);
            EXPECT.same("len of block 0 after emit", x.info(10), 1);
        }
    }

    private static void checker() {
        EXPECT.sentence("checker UNCHECKED");
        for (Subject x : fresh()) {
            EXPECT.same("checker", x.info(15), NullnessFlow.UNCHECKED);
            EXPECT.same("errorWhere", x.errorWhere(), -1);
            EXPECT.same("state", x.state(0, 0, 0), NullnessFlow.NONE);
        }
    }

    private static void machine() {
        EXPECT.sentence("machine NOT_READY with no objects, no output and no frames.");
        for (Subject x : fresh()) {
            EXPECT.same("machine", x.info(16), NullnessFlow.NOT_READY);
            EXPECT.same("run", x.run(5), NullnessFlow.NOT_READY);
            EXPECT.same("objects", x.info(17), 0);
            EXPECT.same("outputs", x.info(18), 0);
            EXPECT.same("frames", x.info(19), 0);
            EXPECT.same("field", x.field(0, 0), NullnessFlow.NONE);
            EXPECT.same("out", x.out(0), NullnessFlow.NONE);
            EXPECT.same("frame", x.frame(0, 0), NullnessFlow.NONE);
        }
    }
}
