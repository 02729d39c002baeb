// A program for each status that a run can end in, and how many steps it makes before the one that ends it.
final class Endings {
    static final int FIRST = NullnessFlow.HALTED;
    static final int LAST = NullnessFlow.TRAP_HEAP;

    private Endings() { }

    static Subject program(int status) {
        return switch (status) {
            case NullnessFlow.HALTED -> new Subject().make(0, 1, 0).show(0);
            case NullnessFlow.TRAP_DEREF -> new Subject().make(0, 1, 0).get(1, 7, 0);
            case NullnessFlow.TRAP_NONNULL -> new Subject().nonNullField(0).make(0, 1, 1).get(2, 0, 0);
            case NullnessFlow.TRAP_DEPTH -> new Subject(8, 8, 2).make(0, 1, 0).in(1).make(2, 1, 1);
            default -> new Subject(8, 8, 2).make(0, 1, 0).jump(0);
        };
    }

    static int stepsBefore(int status) {
        int[] steps = {3, 2, 2, 1, 24};
        return steps[status - FIRST];
    }

    static Subject ended(int status) {
        Subject x = program(status);
        x.check();
        x.run(stepsBefore(status) + 1);
        return x;
    }
}
