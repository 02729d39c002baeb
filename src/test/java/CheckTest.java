import java.util.Arrays;

// Promise 6: check answers the reported error, sets the checker's status and puts the machine at START. The rules by
// which it finds an error are tested in RulesTest, what it computes in SolutionTest.
public final class CheckTest {
    private static final Expect EXPECT = new Expect();

    public static void main(String[] args) {
        neverRefused();
        allFourBlocks();
        solvesAnew();
        errorOrOk();
        status();
        atStart();
        cleared();
        programStays();
        again();
        EXPECT.end();
    }

    // One program for each answer, numbered by it.
    private static Subject answering(int error) {
        Subject x = new Subject();
        return switch (error) {
            case 1 -> x.in(1).nil(0);
            case 2 -> x.param(2, NullnessFlow.NONNULL, NullnessFlow.COMMITTED).make(0, 2, 1);
            case 3 -> x.param(2, NullnessFlow.NULLABLE, NullnessFlow.FREE).make(0, 2, 1);
            case 4 -> x.get(0, 1, 0);
            case 5 -> x.nonNullField(3).in(1).get(2, 0, 3);
            case 6 -> x.nonNullField(3).in(1).put(0, 3, 1);
            case 7 -> x.param(1, NullnessFlow.NONNULL, NullnessFlow.COMMITTED).in(1).put(1, 0, 0);
            case 8 -> x.nonNullField(0);
            default -> x;
        };
    }

    private static void neverRefused() {
        EXPECT.sentence("Never refused.");
        int[] due = {0, 0, 0, 0, NullnessFlow.ERR_DEREF, 0, 0};
        for (int scene = 0; scene < Scenes.COUNT; scene++) {
            Subject x = Scenes.scene(scene);
            for (int round = 0; round < 3; round++) {
                EXPECT.same(Scenes.name(scene) + ", check", x.check(), due[scene]);
            }
            x.emit(-1, 0, 0, 0);
            EXPECT.same(Scenes.name(scene) + ", check after a refused call", x.check(), due[scene]);
        }
        Subject full = new Subject();
        for (int block = 0; block < 4; block++) {
            full.in(block).pad(32);
        }
        EXPECT.same("all blocks full", full.check(), NullnessFlow.OK);
    }

    private static void allFourBlocks() {
        EXPECT.sentence("Computes the SOLUTION of all four blocks");
        // The first point of each block has an error, so that the last blocks are solved though one is reported before.
        Subject x = new Subject();
        for (int block = 0; block < 4; block++) {
            x.in(block).get(2, 7, 0).make(3, 1, 7).ret().nil(3);
        }
        x.check();
        for (int block = 0; block < 4; block++) {
            EXPECT.same("before NEW in block " + block, x.state(block, 1, 3), 1);
            EXPECT.same("after NEW in block " + block, x.state(block, 2, 3), 0);
            EXPECT.same("behind RET in block " + block, x.state(block, 3, 3), -1);
            EXPECT.same("END of block " + block, x.state(block, 4, 3), 0);
        }
    }

    // What an earlier check left must not shine through.
    private static void solvesAnew() {
        Subject x = new Subject().in(1).ret().nil(2);
        x.check();
        EXPECT.same("END at first", x.state(1, 2, 1), 1);
        x.param(1, NullnessFlow.NONNULL, NullnessFlow.FREE).nil(3).check();
        EXPECT.same("where END was", x.state(1, 2, 1), -1);
        EXPECT.same("END is now", x.state(1, 3, 1), 2);
    }

    private static void errorOrOk() {
        EXPECT.sentence("answers the REPORTED error code, or OK if there is none.");
        for (int error = 0; error <= 8; error++) {
            EXPECT.same("program for answer " + error, answering(error).check(), error);
        }
    }

    private static void status() {
        EXPECT.sentence("The checker becomes ACCEPTED (if OK) or REJECTED.");
        for (int error = 0; error <= 8; error++) {
            Subject x = answering(error);
            EXPECT.same("before", x.info(15), NullnessFlow.UNCHECKED);
            x.check();
            int due = error == NullnessFlow.OK ? NullnessFlow.ACCEPTED : NullnessFlow.REJECTED;
            EXPECT.same("program for answer " + error, x.info(15), due);
        }
        Subject x = new Subject().get(0, 1, 0);
        x.check();
        x.in(1).nil(2).check();
        EXPECT.same("REJECTED after REJECTED", x.info(15), NullnessFlow.REJECTED);
        Subject y = new Subject().nonNullField(0);
        y.check();
        y.declareField(0, NullnessFlow.NULLABLE);
        y.check();
        EXPECT.same("ACCEPTED after REJECTED", y.info(15), NullnessFlow.ACCEPTED);
    }

    private static void atStart() {
        EXPECT.sentence("The machine is put at START, even if it was running or had trapped or halted");
        for (int status = Endings.FIRST; status <= Endings.LAST; status++) {
            Subject x = Endings.ended(status);
            EXPECT.same("ended", x.info(16), status);
            starts("ended with " + status, x);
        }
        for (int scene = 0; scene < Scenes.COUNT; scene++) {
            starts(Scenes.name(scene), Scenes.scene(scene));
        }
    }

    private static void starts(String what, Subject x) {
        x.check();
        EXPECT.same(what + ": status", x.info(16), NullnessFlow.RUNNING);
        EXPECT.same(what + ": block", x.frame(0, 8), 0);
        EXPECT.same(what + ": pc", x.frame(0, 9), 0);
        for (int slot : new int[] {0, 1, 2, 3, 4, 5, 6, 7, 10, 11}) {
            EXPECT.same(what + ": slot " + slot, x.frame(0, slot), -1);
        }
    }

    private static void cleared() {
        EXPECT.sentence("objects and output are cleared and there is exactly one frame.");
        for (int scene = 0; scene < Scenes.COUNT; scene++) {
            String what = Scenes.name(scene) + ", check";
            Subject x = Scenes.scene(scene);
            x.check();
            EXPECT.same(what + ": objects", x.info(17), 0);
            EXPECT.same(what + ": object 0", x.field(0, 0), NullnessFlow.NONE);
            EXPECT.same(what + ": outputs", x.info(18), 0);
            EXPECT.same(what + ": output 0", x.out(0), NullnessFlow.NONE);
            EXPECT.same(what + ": frames", x.info(19), 1);
            EXPECT.same(what + ": frame 1", x.frame(1, 0), NullnessFlow.NONE);
            // A run from START goes as the first one went.
            String start = x.picture();
            x.run(300);
            String end = x.picture();
            x.check();
            EXPECT.same(what + " after a run", x.picture(), start);
            x.run(300);
            EXPECT.same(what + ": the same run", x.picture(), end);
        }
    }

    private static void programStays() {
        EXPECT.sentence("Code and declarations do not change.");
        for (int scene = 0; scene < Scenes.COUNT; scene++) {
            Subject x = Scenes.scene(scene);
            String before = Arrays.toString(Scenes.program(x));
            x.check();
            EXPECT.same(Scenes.name(scene), Arrays.toString(Scenes.program(x)), before);
        }
        for (int error = 0; error <= 8; error++) {
            Subject x = answering(error).in(1);
            String before = Arrays.toString(Scenes.program(x));
            x.check();
            EXPECT.same("program for answer " + error, Arrays.toString(Scenes.program(x)), before);
        }
        Subject x = Scenes.allDeclared();
        String before = Arrays.toString(Scenes.program(x));
        EXPECT.same("all declared", x.check(), NullnessFlow.OK);
        EXPECT.same("all declared", Arrays.toString(Scenes.program(x)), before);
    }

    private static void again() {
        EXPECT.sentence("Calling it again without edits answers the same.");
        for (int error = 0; error <= 8; error++) {
            Subject x = answering(error);
            x.check();
            int where = x.errorWhere();
            x.run(100);
            x.select(3);
            x.declareField(4, 0);
            EXPECT.same("check again for answer " + error, x.check(), error);
            EXPECT.same("errorWhere again", x.errorWhere(), where);
            EXPECT.same("and again", x.check(), error);
        }
    }
}
