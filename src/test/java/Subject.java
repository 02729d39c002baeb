// A NullnessFlow under test, with short words to write programs in and a picture of all it shows.
final class Subject implements Calls {
    private final NullnessFlow flow;

    Subject(int codeCap, int heapCap, int maxDepth) {
        flow = new NullnessFlow(codeCap, heapCap, maxDepth);
    }

    Subject() {
        this(32, 32, 8);
    }

    @Override public boolean declareField(int f, int kind) { return flow.declareField(f, kind); }
    @Override public boolean declareParam(int k, int n, int i) { return flow.declareParam(k, n, i); }
    @Override public boolean select(int block) { return flow.select(block); }
    @Override public boolean emit(int op, int a, int b, int c) { return flow.emit(op, a, b, c); }
    @Override public int check() { return flow.check(); }
    @Override public int errorWhere() { return flow.errorWhere(); }
    @Override public int state(int block, int pc, int local) { return flow.state(block, pc, local); }
    @Override public int run(int steps) { return flow.run(steps); }
    @Override public int info(int k) { return flow.info(k); }
    @Override public int code(int block, int pc, int part) { return flow.code(block, pc, part); }
    @Override public int frame(int fr, int slot) { return flow.frame(fr, slot); }
    @Override public int field(int o, int f) { return flow.field(o, f); }
    @Override public int out(int i) { return flow.out(i); }

    Subject nonNullField(int f) { return must(flow.declareField(f, NullnessFlow.NONNULL)); }
    Subject param(int k, int nullness, int init) { return must(flow.declareParam(k, nullness, init)); }
    Subject in(int block) { return must(flow.select(block)); }

    Subject nil(int d) { return must(flow.emit(NullnessFlow.NULL, d, 0, 0)); }
    Subject move(int d, int s) { return must(flow.emit(NullnessFlow.MOVE, d, s, 0)); }
    Subject make(int d, int k, int s) { return must(flow.emit(NullnessFlow.NEW, d, k, s)); }
    Subject get(int d, int s, int f) { return must(flow.emit(NullnessFlow.GET, d, s, f)); }
    Subject put(int x, int f, int s) { return must(flow.emit(NullnessFlow.PUT, x, f, s)); }
    Subject ifNull(int s, int t) { return must(flow.emit(NullnessFlow.IFNULL, s, t, 0)); }
    Subject ifNonNull(int s, int t) { return must(flow.emit(NullnessFlow.IFNONNULL, s, t, 0)); }
    Subject jump(int t) { return must(flow.emit(NullnessFlow.JMP, t, 0, 0)); }
    Subject ret() { return must(flow.emit(NullnessFlow.RET, 0, 0, 0)); }
    Subject show(int s) { return must(flow.emit(NullnessFlow.OUT, s, 0, 0)); }

    // Instructions that take room and do nothing of note.
    Subject pad(int count) {
        for (int i = 0; i < count; i++) {
            nil(7);
        }
        return this;
    }

    // Writing a program is not what is tested: a refusal there is a fault of the test or of emit.
    private Subject must(boolean taken) {
        if (!taken) {
            throw new IllegalStateException("a call that writes the test's program was refused");
        }
        return this;
    }

    // Every answer that the object can give without being changed, a little beyond the edges too.
    static String picture(Calls x) {
        int none = 21;
        return pictureBut(x, none);
    }

    // The same without one of the numbers that info answers.
    private static String pictureBut(Calls x, int left) {
        StringBuilder all = new StringBuilder();
        for (int k = -1; k <= 20; k++) {
            if (k != left) {
                all.append(x.info(k)).append(' ');
            }
        }
        all.append("| ").append(x.errorWhere()).append(" |");
        for (int block = 0; block < 4; block++) {
            int len = x.info(10 + block);
            for (int pc = -1; pc <= len + 1; pc++) {
                for (int part = -1; part <= 4; part++) {
                    all.append(' ').append(x.code(block, pc, part));
                }
                for (int local = -1; local <= 8; local++) {
                    all.append(' ').append(x.state(block, pc, local));
                }
            }
        }
        return all.append(" |").append(machine(x)).toString();
    }

    private static String machine(Calls x) {
        StringBuilder all = new StringBuilder();
        for (int fr = -1; fr <= x.info(19); fr++) {
            for (int slot = -1; slot <= 12; slot++) {
                all.append(' ').append(x.frame(fr, slot));
            }
        }
        all.append(" |");
        for (int o = -1; o <= x.info(17); o++) {
            for (int f = -1; f <= 4; f++) {
                all.append(' ').append(x.field(o, f));
            }
        }
        all.append(" |");
        for (int i = -1; i <= x.info(18); i++) {
            all.append(' ').append(x.out(i));
        }
        return all.toString();
    }

    String picture() {
        return picture(this);
    }

    String pictureBut(int left) {
        return pictureBut(this, left);
    }

    // Only what a run can change but for the status.
    String machine() {
        return machine(this);
    }
}
