import java.util.Arrays;

// Promise 9: run makes steps, at most as many as asked, and answers the machine's status. What a step does is tested
// in MachineTest, and that an accepted program never traps on null in SoundnessTest.
public final class RunTest {
    private static final int RUNNING = NullnessFlow.RUNNING;
    private static final int NOT_READY = NullnessFlow.NOT_READY;

    private static final Expect EXPECT = new Expect();

    public static void main(String[] args) {
        unchecked();
        checked();
        negative();
        inRange();
        aboveMost();
        oneByOne();
        whileRunning();
        answersStatus();
        stays();
        untilCheckOrEdit();
        programStays();
        acceptedOrRejected();
        otherTraps();
        EXPECT.end();
    }

    private static void unchecked() {
        EXPECT.sentence("If the checker is UNCHECKED, answers NOT_READY and does nothing.");
        Subject edited = Scenes.scene(2);
        edited.declareField(0, NullnessFlow.NULLABLE);
        for (Subject x : new Subject[] {Scenes.scene(0), Scenes.scene(5), edited}) {
            String before = x.picture();
            for (int steps : new int[] {Integer.MIN_VALUE, -1, 0, 1, 10000, 10001, Integer.MAX_VALUE}) {
                EXPECT.same("run(" + steps + ")", x.run(steps), NOT_READY);
                EXPECT.same("run(" + steps + "): picture", x.picture(), before);
            }
        }
    }

    private static void checked() {
        EXPECT.sentence("Otherwise (ACCEPTED or REJECTED) the machine runs");
        Subject accepted = new Subject().show(0);
        EXPECT.same("accepted", accepted.check(), NullnessFlow.OK);
        EXPECT.same("accepted, run(1)", accepted.run(1), RUNNING);
        EXPECT.same("accepted: outputs", accepted.info(18), 1);
        Subject rejected = new Subject().show(0).in(3).nil(0);
        EXPECT.same("rejected", rejected.check(), NullnessFlow.ERR_THIS);
        EXPECT.same("rejected, run(1)", rejected.run(1), RUNNING);
        EXPECT.same("rejected: outputs", rejected.info(18), 1);
        EXPECT.same("rejected, to the end", rejected.run(1), NullnessFlow.HALTED);
    }

    // Loops of 29, 30 and 31 instructions tell by their pcs how many steps were made, up to some 27000.
    private static void made(int steps, int due) {
        for (int period = 29; period <= 31; period++) {
            Subject x = new Subject().pad(period - 1).jump(0);
            x.check();
            EXPECT.same("run(" + steps + ")", x.run(steps), RUNNING);
            EXPECT.same("run(" + steps + "): pc in a loop of " + period, x.frame(0, 9), due % period);
            EXPECT.same("run(1) more", x.run(1), RUNNING);
            EXPECT.same("run(1) more: pc in a loop of " + period, x.frame(0, 9), (due + 1) % period);
        }
    }

    private static void negative() {
        EXPECT.sentence("negative becomes 0");
        for (int steps : new int[] {-1, -2, -9999, -10000, -10001, Integer.MIN_VALUE + 1, Integer.MIN_VALUE}) {
            made(steps, 0);
        }
    }

    private static void inRange() {
        EXPECT.sentence("steps is clamped into 0..10000");
        for (int steps : new int[] {0, 1, 2, 28, 29, 30, 31, 255, 256, 9998, 9999, 10000}) {
            made(steps, steps);
        }
    }

    private static void aboveMost() {
        EXPECT.sentence("above 10000 becomes 10000");
        for (int steps : new int[] {10001, 10002, 20000, 65536, 75536, Integer.MAX_VALUE - 1, Integer.MAX_VALUE}) {
            made(steps, 10000);
        }
    }

    private static void oneByOne() {
        EXPECT.sentence("STEPs are made one by one while fewer than steps have been made");
        for (int status = Endings.FIRST; status <= Endings.LAST; status++) {
            int all = Endings.stepsBefore(status) + 1;
            for (int first = 0; first <= all; first++) {
                Subject parted = Endings.program(status);
                parted.check();
                EXPECT.same("run(" + first + ")", parted.run(first), first < all ? RUNNING : status);
                EXPECT.same("the rest", parted.run(all - first), status);
                EXPECT.same("picture", parted.picture(), Endings.ended(status).picture());
            }
        }
    }

    private static void whileRunning() {
        EXPECT.sentence("and the status is RUNNING.");
        for (int status = Endings.FIRST; status <= Endings.LAST; status++) {
            for (int more = 1; more <= 10000; more *= 10) {
                Subject x = Endings.program(status);
                x.check();
                EXPECT.same("run beyond the end", x.run(Endings.stepsBefore(status) + more), status);
                EXPECT.same("picture", x.picture(), Endings.ended(status).picture());
            }
        }
    }

    private static void answersStatus() {
        EXPECT.sentence("Answers the status.");
        for (int status = Endings.FIRST; status <= Endings.LAST; status++) {
            Subject x = Endings.program(status);
            EXPECT.same("before check", x.run(0), NOT_READY);
            x.check();
            for (int i = 0; i < Endings.stepsBefore(status); i++) {
                EXPECT.same("run(1)", x.run(1), RUNNING);
                EXPECT.same("info(16)", x.info(16), RUNNING);
            }
            EXPECT.same("the last step", x.run(1), status);
            EXPECT.same("info(16)", x.info(16), status);
        }
    }

    private static void stays() {
        EXPECT.sentence("further runs make no steps and answer it again.");
        for (int status = Endings.FIRST; status <= Endings.LAST; status++) {
            Subject x = Endings.ended(status);
            String before = x.pictureBut(14);
            for (int steps : new int[] {1, 0, -1, 10000, Integer.MAX_VALUE, Integer.MIN_VALUE}) {
                EXPECT.same("run(" + steps + ")", x.run(steps), status);
                EXPECT.same("run(" + steps + "): picture", x.pictureBut(14), before);
            }
            x.select(2);
            x.select(4);
            x.declareField(4, 0);
            x.declareParam(0, 0, 0);
            x.emit(10, 0, 0, 0);
            EXPECT.same("after a select and refused calls", x.run(1), status);
            EXPECT.same("after a select and refused calls: picture", x.pictureBut(14), before);
        }
    }

    private static void untilCheckOrEdit() {
        EXPECT.sentence("A status of HALTED or a trap stays until the next check() or edit");
        for (int status = Endings.FIRST; status <= Endings.LAST; status++) {
            Subject x = Endings.ended(status);
            x.check();
            EXPECT.same("after check", x.run(0), RUNNING);
            EXPECT.same("the same steps once more", x.run(Endings.stepsBefore(status) + 1), status);
            x.declareField(3, x.info(3));
            EXPECT.same("after declareField", x.run(1), NOT_READY);
            Subject y = Endings.ended(status);
            y.declareParam(3, y.info(6), y.info(9));
            EXPECT.same("after declareParam", y.run(1), NOT_READY);
            Subject z = Endings.ended(status).in(3).nil(1);
            EXPECT.same("after emit", z.run(1), NOT_READY);
            z.check();
            EXPECT.same("after the next check", z.run(0), RUNNING);
        }
    }

    private static void programStays() {
        EXPECT.sentence("Code, declarations and checker status do not change.");
        for (int scene = 0; scene < Scenes.COUNT; scene++) {
            Subject x = Scenes.scene(scene);
            int checker = x.info(15);
            int where = x.errorWhere();
            int state = x.state(1, 1, 2);
            String before = Arrays.toString(Scenes.program(x));
            x.run(100);
            EXPECT.same(Scenes.name(scene) + ": checker", x.info(15), checker);
            EXPECT.same(Scenes.name(scene) + ": errorWhere", x.errorWhere(), where);
            EXPECT.same(Scenes.name(scene) + ": state", x.state(1, 1, 2), state);
            EXPECT.same(Scenes.name(scene) + ": program", Arrays.toString(Scenes.program(x)), before);
        }
        Subject x = Scenes.allDeclared();
        String before = Arrays.toString(Scenes.program(x));
        x.check();
        EXPECT.same("all declared", x.run(100), NullnessFlow.HALTED);
        EXPECT.same("all declared: program", Arrays.toString(Scenes.program(x)), before);
        EXPECT.same("all declared: checker", x.info(15), NullnessFlow.ACCEPTED);
        for (int status = Endings.FIRST; status <= Endings.LAST; status++) {
            Subject rejected = Endings.program(status).in(3).nil(0);
            rejected.check();
            EXPECT.same("rejected", rejected.run(100), status);
            EXPECT.same("rejected, ended with " + status, rejected.info(15), NullnessFlow.REJECTED);
        }
    }

    // Constructor 3 is never run here: an error in it makes the program REJECTED and must change nothing of the run.
    private static void acceptedOrRejected() {
        EXPECT.sentence("The machine makes all its trap tests the same way whether the checker is ACCEPTED or"
                + " REJECTED.");
        for (int status : new int[] {NullnessFlow.HALTED, NullnessFlow.TRAP_DEPTH, NullnessFlow.TRAP_HEAP}) {
            Subject accepted = Endings.program(status);
            Subject rejected = Endings.program(status).in(3).nil(0);
            EXPECT.same("accepted", accepted.check(), NullnessFlow.OK);
            EXPECT.same("rejected", rejected.check(), NullnessFlow.ERR_THIS);
            for (int i = 0; i <= Endings.stepsBefore(status); i++) {
                EXPECT.same("run(1)", rejected.run(1), accepted.run(1));
                EXPECT.same("machine", rejected.machine(), accepted.machine());
            }
            EXPECT.same("end", rejected.run(0), status);
        }
    }

    private static void otherTraps() {
        EXPECT.sentence("TRAP_DEPTH and TRAP_HEAP may still occur.");
        for (int status : new int[] {NullnessFlow.TRAP_DEPTH, NullnessFlow.TRAP_HEAP}) {
            Subject x = Endings.program(status);
            EXPECT.same("check", x.check(), NullnessFlow.OK);
            EXPECT.same("run", x.run(10000), status);
            EXPECT.same("checker", x.info(15), NullnessFlow.ACCEPTED);
        }
    }
}
