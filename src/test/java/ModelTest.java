// Long made-up runs of calls on the program and on the model side by side: every answer must be the same.
public final class ModelTest {
    private static final int RUNS = 6000;
    private static final int[] ODD = {Integer.MIN_VALUE, -2, -1, 0, 1, 2, 3, 4, 7, 8, 9, 31, 32, 33, Integer.MAX_VALUE};

    private final Expect expect = new Expect();
    private final Numbers numbers = new Numbers(20261115);
    private final int[] answers = new int[9];
    private final int[] statuses = new int[27];

    public static void main(String[] args) {
        ModelTest test = new ModelTest();
        for (int run = 0; run < RUNS && !test.expect.failed(); run++) {
            test.oneRun(run);
        }
        test.enoughSeen();
        test.expect.end();
    }

    private int pick(int bound) {
        return numbers.below(bound);
    }

    private int odd() {
        return ODD[pick(ODD.length)];
    }

    private void oneRun(int run) {
        int codeCap = pick(8) == 0 ? odd() : 8 + pick(25);
        int heapCap = pick(8) == 0 ? odd() : 8 + pick(25);
        int maxDepth = pick(8) == 0 ? odd() : 1 + pick(8);
        Subject x = new Subject(codeCap, heapCap, maxDepth);
        Model m = new Model(codeCap, heapCap, maxDepth);
        String tag = "run " + run + " ";
        declare(tag, x, m);
        int size = 1 + pick(run % 2 == 0 ? 6 : 24);
        for (int block = 0; block < 4; block++) {
            one(tag, x, m, 2, block, 0, 0, 0);
            int count = pick(size + 1);
            for (int i = 0; i < count; i++) {
                emitLikely(tag, x, m, size);
            }
        }
        for (int round = 0; round < 3 && !expect.failed(); round++) {
            checkAndRun(tag, x, m);
            compare(tag, x, m);
            for (int i = pick(6); i > 0; i--) {
                anyCall(tag, x, m);
            }
            compare(tag, x, m);
        }
    }

    private void declare(String tag, Subject x, Model m) {
        for (int f = 0; f < 4; f++) {
            if (pick(3) == 0) {
                one(tag, x, m, 0, f, pick(4) == 0 ? 1 : 0, 0, 0);
            }
        }
        for (int k = 1; k < 4; k++) {
            if (pick(4) != 0) {
                one(tag, x, m, 1, k, pick(2), pick(3), 0);
            }
        }
    }

    private void emitLikely(String tag, Subject x, Model m, int size) {
        int op = pick(10);
        int local = pick(4);
        int other = pick(3) == 0 ? 0 : pick(4);
        if (op == 2) {
            one(tag, x, m, 3, op, local, 1 + pick(3), other);
        } else if (op == 3) {
            one(tag, x, m, 3, op, 2 + pick(3), other, pick(4));
        } else if (op == 4) {
            one(tag, x, m, 3, op, other, pick(4), local);
        } else if (op == 5 || op == 6) {
            one(tag, x, m, 3, op, local, pick(size + 2), 0);
        } else if (op == 7 || op == 8) {
            if (pick(3) == 0) {
                one(tag, x, m, 3, op, pick(size + 2), 0, 0);
            }
        } else {
            one(tag, x, m, 3, op, local, other, pick(9));
        }
    }

    private void anyCall(String tag, Subject x, Model m) {
        int call = pick(6);
        if (pick(3) == 0) {
            one(tag, x, m, call, odd(), odd(), odd(), odd());
        } else {
            one(tag, x, m, call, pick(10), pick(9), pick(9), pick(9));
        }
    }

    private void checkAndRun(String tag, Subject x, Model m) {
        int answer = x.check();
        answers[answer]++;
        expect.same(tag + "check", answer, m.check());
        compare(tag + "after check", x, m);
        for (int i = pick(5); i > 0; i--) {
            one(tag, x, m, 5, pick(12), 0, 0, 0);
            compare(tag + "after a few steps", x, m);
        }
        one(tag, x, m, 5, pick(4) == 0 ? odd() : 300, 0, 0, 0);
        statuses[x.info(16)]++;
    }

    private void compare(String tag, Subject x, Model m) {
        expect.same(tag + "picture", x.picture(), Subject.picture(m));
    }

    private void one(String tag, Subject x, Model m, int call, int p, int q, int r, int s) {
        String what = tag + "call " + call + " (" + p + ", " + q + ", " + r + ", " + s + ")";
        expect.same(what, answer(x, call, p, q, r, s), answer(m, call, p, q, r, s));
    }

    private static int answer(Calls x, int call, int p, int q, int r, int s) {
        return switch (call) {
            case 0 -> x.declareField(p, q) ? 1 : 0;
            case 1 -> x.declareParam(p, q, r) ? 1 : 0;
            case 2 -> x.select(p) ? 1 : 0;
            case 3 -> x.emit(p, q, r, s) ? 1 : 0;
            case 4 -> x.check();
            default -> x.run(p);
        };
    }

    // Without this the runs could come to miss what they are for without anyone seeing it.
    private void enoughSeen() {
        for (int code = 0; code <= 8; code++) {
            expect.yes("check answers " + code + " often: " + answers[code], answers[code] >= 50);
        }
        for (int status = NullnessFlow.RUNNING; status <= NullnessFlow.TRAP_HEAP; status++) {
            expect.yes("runs end in status " + status + " often: " + statuses[status], statuses[status] >= 20);
        }
    }
}
