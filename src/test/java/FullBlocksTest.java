// Made-up programs of four full blocks, with targets forward and back and at END, checked and run beside the model:
// every point's state must be the same.
public final class FullBlocksTest {
    private static final int PROGRAMS = 2500;
    private static final int LEN = 32;

    private final Expect expect = new Expect();
    private final Numbers numbers = new Numbers(32);
    private int reached = 0;

    public static void main(String[] args) {
        FullBlocksTest test = new FullBlocksTest();
        for (int i = 0; i < PROGRAMS && !test.expect.failed(); i++) {
            test.oneProgram(i);
        }
        int points = PROGRAMS * 4 * LEN;
        test.expect.yes("points reached: " + test.reached + " of " + points, test.reached > points / 3);
        test.expect.end();
    }

    private void oneProgram(int program) {
        Subject x = new Subject();
        Model m = new Model(LEN, 32, 8);
        declare(x, m);
        // A few jumps lead to long ways through a block, many to tangled ones.
        int jumps = 1 + program % 8;
        for (int block = 0; block < 4; block++) {
            x.select(block);
            m.select(block);
            for (int pc = 0; pc < LEN; pc++) {
                emit(x, m, numbers.below(16) < jumps ? jump() : plain());
            }
        }
        expect.same("program " + program + ": check", x.check(), m.check());
        expect.same("program " + program + ": picture", x.picture(), Subject.picture(m));
        expect.same("program " + program + ": run", x.run(400), m.run(400));
        expect.same("program " + program + ": picture after it", x.picture(), Subject.picture(m));
        countReached(x);
    }

    private void declare(Calls x, Calls m) {
        for (int f = 0; f < 4; f++) {
            int kind = numbers.below(2);
            expect.yes("declareField", x.declareField(f, kind) && m.declareField(f, kind));
        }
        for (int k = 1; k < 4; k++) {
            int nullness = numbers.below(2);
            int init = numbers.below(3);
            expect.yes("declareParam", x.declareParam(k, nullness, init) && m.declareParam(k, nullness, init));
        }
    }

    private void emit(Calls x, Calls m, int[] i) {
        expect.yes("emit", x.emit(i[0], i[1], i[2], i[3]) && m.emit(i[0], i[1], i[2], i[3]));
    }

    private int[] jump() {
        int target = numbers.below(LEN + 1);
        int local = numbers.below(8);
        return switch (numbers.below(5)) {
            case 0 -> new int[] {NullnessFlow.JMP, target, 0, 0};
            case 1, 2 -> new int[] {NullnessFlow.IFNULL, local, target, 0};
            default -> new int[] {NullnessFlow.IFNONNULL, local, target, 0};
        };
    }

    private int[] plain() {
        int one = numbers.below(8);
        int two = numbers.below(8);
        int f = numbers.below(4);
        return switch (numbers.below(12)) {
            case 0 -> new int[] {NullnessFlow.NULL, one, 0, 0};
            case 1, 2, 3 -> new int[] {NullnessFlow.MOVE, one, two, 0};
            case 4, 5 -> new int[] {NullnessFlow.NEW, one, 1 + numbers.below(3), two};
            case 6, 7 -> new int[] {NullnessFlow.GET, one, two, f};
            case 8 -> new int[] {NullnessFlow.OUT, one, 0, 0};
            default -> new int[] {NullnessFlow.PUT, one, f, two};
        };
    }

    private void countReached(Subject x) {
        for (int block = 0; block < 4; block++) {
            for (int pc = 0; pc < LEN; pc++) {
                reached += x.state(block, pc, 0) == -1 ? 0 : 1;
            }
        }
    }
}
