import java.util.ArrayList;
import java.util.List;

// Promise 9's consequence: a program that check() accepts never traps on null, also while objects are being made.
// Made-up programs are seldom accepted, so the reported instruction is taken out, over and over, until one is.
public final class SoundnessTest {
    private static final int PROGRAMS = 8000;

    private final Expect expect = new Expect();
    private final Numbers numbers = new Numbers(7);
    private final int[] kinds = new int[4];
    private final int[][] params = new int[4][2];
    private final List<List<int[]>> blocks = new ArrayList<>();
    private int ran = 0;
    private int ranDeep = 0;

    public static void main(String[] args) {
        SoundnessTest test = new SoundnessTest();
        test.expect.sentence("run never answers TRAP_DEREF or TRAP_NONNULL, and info(16) is never either of them; this"
                + " holds also inside constructors and for objects still under construction.");
        for (int i = 0; i < PROGRAMS && !test.expect.failed(); i++) {
            test.write();
            test.mendAndRun(i);
        }
        test.expect.yes("programs accepted that make objects with NONNULL fields: " + test.ran, test.ran > 2000);
        test.expect.yes("of them with constructors within constructors: " + test.ranDeep, test.ranDeep > 500);
        test.expect.end();
    }

    private void write() {
        for (int f = 0; f < 4; f++) {
            kinds[f] = numbers.below(2);
        }
        blocks.clear();
        for (int block = 0; block < 4; block++) {
            params[block][0] = numbers.below(2);
            params[block][1] = numbers.below(3);
            List<int[]> code = new ArrayList<>();
            for (int i = 4 + numbers.below(14); i > 0; i--) {
                code.add(instruction());
            }
            blocks.add(code);
        }
        blocks.get(0).add(0, new int[] {NullnessFlow.NEW, 0, 1 + numbers.below(3), 1});
    }

    private int[] instruction() {
        int[] likely = {0, 1, 2, 2, 2, 2, 3, 3, 3, 4, 4, 4, 4, 5, 6, 7, 9};
        int op = likely[numbers.below(likely.length)];
        int x = numbers.below(5);
        int y = numbers.below(5);
        return switch (op) {
            case NullnessFlow.NEW -> new int[] {op, x, 1 + numbers.below(3), y};
            case NullnessFlow.GET -> new int[] {op, x, y, numbers.below(4)};
            case NullnessFlow.PUT -> new int[] {op, x, numbers.below(4), y};
            case NullnessFlow.IFNULL, NullnessFlow.IFNONNULL -> new int[] {op, x, numbers.below(20), 0};
            case NullnessFlow.JMP -> new int[] {op, 4 + numbers.below(16), 0, 0};
            default -> new int[] {op, x, y, 0};
        };
    }

    private void mendAndRun(int program) {
        Subject x = built();
        int error = x.check();
        for (int round = 0; error != NullnessFlow.OK && round < 200; round++) {
            mend(error, x.errorWhere() / 64, x.errorWhere() % 64);
            x = built();
            error = x.check();
        }
        if (error != NullnessFlow.OK) {
            return;
        }
        int deepest = 0;
        for (int i = 0; i < 300; i++) {
            int status = x.run(1);
            deepest = Math.max(deepest, x.info(19));
            expect.no("accepted program " + program + " traps on null", trapsOnNull(status));
            expect.no("accepted program " + program + " has trapped on null", trapsOnNull(x.info(16)));
        }
        if (kinds[0] * kinds[1] * kinds[2] * kinds[3] == 0 && x.info(17) > 0) {
            ran++;
            ranDeep += deepest > 2 ? 1 : 0;
        }
    }

    private static boolean trapsOnNull(int status) {
        return status == NullnessFlow.TRAP_DEREF || status == NullnessFlow.TRAP_NONNULL;
    }

    // A constructor that leaves a field out gets a put of it, early or late; what else is reported is taken out.
    private void mend(int error, int block, int point) {
        List<int[]> code = blocks.get(block);
        if (error != NullnessFlow.ERR_INCOMPLETE) {
            code.remove(point);
            return;
        }
        int f = numbers.below(4);
        int at = numbers.below(code.size() + 1);
        if (code.size() < 32) {
            code.add(at, new int[] {NullnessFlow.PUT, 0, f, numbers.below(3)});
        } else {
            code.remove(numbers.below(code.size()));
        }
    }

    private Subject built() {
        Subject x = new Subject(32, 32, 8);
        for (int f = 0; f < 4; f++) {
            x.declareField(f, kinds[f]);
        }
        for (int block = 0; block < 4; block++) {
            x.declareParam(block, params[block][0], params[block][1]);
            x.select(block);
            for (int[] i : blocks.get(block)) {
                x.emit(i[0], i[1], i[2], i[3]);
            }
        }
        return x;
    }
}
