import java.util.Arrays;

// Promise 5: emit appends one instruction to the selected block and resets; a refused call changes nothing.
public final class EmitTest {
    private static final int LOW = Integer.MIN_VALUE;
    private static final int HIGH = Integer.MAX_VALUE;
    private static final int CODE_CAP = 16;

    // For each op the least and the greatest of a, b and c; none where the op does not use the operand.
    private static final int[][][] RANGES = {
        {{0, 7}, {}, {}},
        {{0, 7}, {0, 7}, {}},
        {{0, 7}, {1, 3}, {0, 7}},
        {{0, 7}, {0, 7}, {0, 3}},
        {{0, 7}, {0, 3}, {0, 7}},
        {{0, 7}, {0, CODE_CAP}, {}},
        {{0, 7}, {0, CODE_CAP}, {}},
        {{0, CODE_CAP}, {}, {}},
        {{}, {}, {}},
        {{0, 7}, {}, {}},
    };

    private static final Expect EXPECT = new Expect();

    public static void main(String[] args) {
        for (int scene = 0; scene < Scenes.COUNT; scene++) {
            for (int op = 0; op < RANGES.length; op++) {
                operands(scene, op);
            }
            noSuchOp(scene);
        }
        fullBlock();
        EXPECT.end();
    }

    // Each operand in turn at its edges and beyond, the others within their ranges.
    private static void operands(int scene, int op) {
        for (int part = 0; part < 3; part++) {
            for (int value : new int[] {LOW, -1, 0, 1, 2, 3, 4, 7, 8, CODE_CAP, CODE_CAP + 1, HIGH}) {
                int[] call = {op, 1, 1, 1};
                call[part + 1] = value;
                int[] range = RANGES[op][part];
                boolean fits = range.length == 0 || value >= range[0] && value <= range[1];
                one(scene, call, fits);
            }
        }
        one(scene, new int[] {op, 1, 1, 1}, true);
    }

    private static void one(int scene, int[] call, boolean fits) {
        String what = Scenes.name(scene) + ", emit" + Arrays.toString(call);
        Subject x = Scenes.scene(scene);
        if (!fits) {
            String before = x.picture();
            EXPECT.no(what, x.emit(call[0], call[1], call[2], call[3]));
            EXPECT.same(what, x.picture(), before);
            return;
        }
        int block = x.info(14);
        int len = x.info(10 + block);
        int[] due = Scenes.program(x);
        due[10 + block]++;
        due[Scenes.codeCell(block, len)] = call[0];
        for (int part = 1; part <= 3; part++) {
            boolean used = RANGES[call[0]][part - 1].length != 0;
            due[Scenes.codeCell(block, len) + part] = used ? call[part] : 0;
        }
        EXPECT.yes(what, x.emit(call[0], call[1], call[2], call[3]));
        EXPECT.same(what, Arrays.toString(Scenes.program(x)), Arrays.toString(due));
        Scenes.wasReset(EXPECT, what, x);
    }

    private static void noSuchOp(int scene) {
        for (int op : new int[] {LOW, -1, 10, 11, HIGH}) {
            one(scene, new int[] {op, 1, 1, 1}, false);
        }
    }

    private static void fullBlock() {
        for (int cap : new int[] {8, 16, 32}) {
            Subject x = new Subject(cap, 16, 4).in(1);
            for (int i = 0; i < cap; i++) {
                EXPECT.yes("room for instruction " + i + " of " + cap, x.emit(NullnessFlow.MOVE, 2, i % 8, 0));
            }
            x.check();
            String before = x.picture();
            EXPECT.no("full block of " + cap, x.emit(NullnessFlow.RET, 0, 0, 0));
            EXPECT.same("full block of " + cap, x.picture(), before);
            for (int i = 0; i < cap; i++) {
                EXPECT.same("code at " + i + " of " + cap, x.code(1, i, 2), i % 8);
            }
            x.select(2);
            EXPECT.yes("another block than the full one", x.emit(NullnessFlow.RET, 0, 0, 0));
        }
    }
}
