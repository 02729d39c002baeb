// A constructor of whose locals 0 to 5 each holds another pair of a nullness and an init state, made without an error.
final class SixValues {
    static final int COUNT = 6;
    // The local that holds what may be put anywhere, and the first local that is left to the test.
    static final int COMMITTED_OBJECT = 5;
    static final int SPARE = 6;
    // The point behind what makes the six.
    static final int POINT = 3;

    private static final int[] NULLNESS = {0, 1, 1, 1, 0, 0};
    private static final int[] INIT = {NullnessFlow.FREE, NullnessFlow.FREE, NullnessFlow.COMMITTED,
        NullnessFlow.UNCLASSIFIED, NullnessFlow.UNCLASSIFIED, NullnessFlow.COMMITTED};

    private SixValues() { }

    static boolean isNullable(int value) {
        return NULLNESS[value] == NullnessFlow.NULLABLE;
    }

    static int nullness(int value) {
        return NULLNESS[value];
    }

    static int init(int value) {
        return INIT[value];
    }

    // Writes constructor 1 as far as POINT. The field must be a NULLABLE one. END of constructors 2 and 3 is not
    // reached, so that they have nothing to complete.
    static Subject write(Subject x, int nullableField) {
        x.in(2).jump(0).in(3).jump(0);
        x.param(1, NullnessFlow.NULLABLE, NullnessFlow.FREE).param(3, NullnessFlow.NULLABLE, NullnessFlow.UNCLASSIFIED);
        return x.in(1).get(3, 0, nullableField).make(4, 3, 3).make(COMMITTED_OBJECT, 3, 2);
    }

    static void asNamed(Expect expect) {
        Subject x = write(new Subject(), 0);
        expect.same("no error in it", x.check(), NullnessFlow.OK);
        for (int value = 0; value < COUNT; value++) {
            expect.same("value " + value, x.state(1, POINT, value), NULLNESS[value] + 2 * INIT[value]);
        }
        expect.same("the spare local", x.state(1, POINT, SPARE), 1);
    }
}
