// The example in README.md, with the answers that are told there.
public final class ReadmeTest {
    public static void main(String[] args) {
        Expect expect = new Expect();
        NullnessFlow x = new NullnessFlow(16, 16, 4);
        x.declareField(0, NullnessFlow.NONNULL);
        for (int k = 1; k <= 3; k++) {
            x.select(k);
            x.emit(NullnessFlow.PUT, 0, 0, 0);
        }
        x.select(0);
        x.emit(NullnessFlow.NEW, 2, 1, 3);
        x.emit(NullnessFlow.GET, 4, 2, 0);
        x.emit(NullnessFlow.OUT, 4, 0, 0);
        expect.same("check", x.check(), NullnessFlow.OK);
        expect.same("run", x.run(100), NullnessFlow.HALTED);
        expect.same("out", x.out(0), 0);
        expect.end();
    }
}
