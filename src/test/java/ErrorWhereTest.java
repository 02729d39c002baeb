// Promise 7: errorWhere answers the reported place while the checker is REJECTED, else -1. RulesTest tells more places.
public final class ErrorWhereTest {
    private static final Expect EXPECT = new Expect();

    public static void main(String[] args) {
        everyPlace();
        everyEnd();
        unchecked();
        accepted();
        changesNothing();
        EXPECT.end();
    }

    private static void everyPlace() {
        EXPECT.sentence("If the checker is REJECTED, answers 64 * block + point of the REPORTED error");
        for (int block = 0; block < 4; block++) {
            for (int point = 0; point < 32; point++) {
                Subject x = new Subject().in(block).pad(point).get(2, 3, 0);
                x.check();
                EXPECT.same("block " + block + ", point " + point, x.errorWhere(), 64 * block + point);
                x.run(100);
                x.select(1);
                x.select(9);
                x.declareField(9, 9);
                EXPECT.same("after a run, a select and refused calls", x.errorWhere(), 64 * block + point);
            }
        }
    }

    private static void everyEnd() {
        EXPECT.sentence("(the point is len of the block for ERR_INCOMPLETE)");
        for (int block = 1; block < 4; block++) {
            for (int len = 0; len <= 32; len++) {
                Subject x = new Subject().nonNullField(0);
                for (int other = 1; other < 4; other++) {
                    if (other != block) {
                        x.in(other).put(0, 0, 0);
                    }
                }
                x.in(block).pad(len);
                EXPECT.same("check", x.check(), NullnessFlow.ERR_INCOMPLETE);
                EXPECT.same("block " + block + " of len " + len, x.errorWhere(), 64 * block + len);
            }
        }
    }

    private static void unchecked() {
        EXPECT.sentence("Otherwise (UNCHECKED or ACCEPTED) answers -1.");
        Subject x = new Subject().in(2).nil(0);
        EXPECT.same("before check", x.errorWhere(), -1);
        x.check();
        EXPECT.same("after check", x.errorWhere(), 128);
        x.declareField(0, NullnessFlow.NULLABLE);
        EXPECT.same("after declareField", x.errorWhere(), -1);
        x.check();
        x.declareParam(1, NullnessFlow.NULLABLE, NullnessFlow.COMMITTED);
        EXPECT.same("after declareParam", x.errorWhere(), -1);
        x.check();
        x.show(0);
        EXPECT.same("after emit", x.errorWhere(), -1);
        x.run(10);
        EXPECT.same("after a run that was not made", x.errorWhere(), -1);
    }

    private static void accepted() {
        Subject empty = new Subject();
        empty.check();
        EXPECT.same("empty and accepted", empty.errorWhere(), -1);
        Subject x = new Subject().nonNullField(1);
        x.check();
        EXPECT.same("rejected at first", x.errorWhere(), 64);
        x.declareField(1, NullnessFlow.NULLABLE);
        x.check();
        EXPECT.same("accepted then", x.errorWhere(), -1);
        x.make(0, 1, 0).jump(0).check();
        EXPECT.same("accepted, and the run traps", x.run(10000), NullnessFlow.TRAP_HEAP);
        EXPECT.same("a trap is no error", x.errorWhere(), -1);
        int[] due = {-1, -1, -1, -1, 4, -1, -1};
        for (int scene = 0; scene < Scenes.COUNT; scene++) {
            EXPECT.same(Scenes.name(scene), Scenes.scene(scene).errorWhere(), due[scene]);
        }
    }

    private static void changesNothing() {
        EXPECT.sentence("Changes nothing.");
        Scenes.leaveAll(EXPECT, "errorWhere()", Subject::errorWhere);
    }
}
