// Promise 10: info answers each number of the list, and NONE for any other.
public final class InfoTest {
    private static final Expect EXPECT = new Expect();

    public static void main(String[] args) {
        EXPECT.sentence("Answers by k");
        eachKnown();
        fields();
        parameters();
        lengths();
        selection();
        statuses();
        counts();
        others();
        changesNothing();
        EXPECT.end();
    }

    // Each answer that can differ from its neighbours' does, so that none stands in for another.
    private static void eachKnown() {
        Subject x = new Subject(16, 16, 8).nonNullField(1).nonNullField(3);
        x.param(1, 0, 2).param(2, 1, 1).param(3, 0, 0);
        x.in(1).put(0, 1, 0).put(0, 3, 0).make(2, 2, 0).show(2);
        x.in(2).put(0, 1, 0).put(0, 3, 0);
        x.in(3).show(0).put(0, 1, 0).put(0, 3, 0).make(4, 1, 0).show(4);
        x.in(0).show(0).show(0).ret();
        same("written", x, 1, 0, 1, 0, 0, 1, 0, 2, 1, 0, 3, 4, 2, 5, 0, 30, 20, 0, 0, 0);
        x.in(2).check();
        same("checked", x, 1, 0, 1, 0, 0, 1, 0, 2, 1, 0, 3, 4, 2, 5, 2, 31, 21, 0, 0, 1);
        x.run(2);
        same("running", x, 1, 0, 1, 0, 0, 1, 0, 2, 1, 0, 3, 4, 2, 5, 2, 31, 21, 0, 2, 1);
        x.run(1);
        same("halted", x, 1, 0, 1, 0, 0, 1, 0, 2, 1, 0, 3, 4, 2, 5, 2, 31, 22, 0, 2, 1);
        same("within constructors", Scenes.scene(2), 1, 0, 1, 1, 1, 0, 1, 0, 1, 0, 4, 2, 2, 1, 0, 31, 21, 2, 1, 3);
        same("trapped", Scenes.scene(4), 1, 0, 1, 1, 1, 0, 1, 0, 1, 0, 5, 2, 2, 1, 2, 32, 23, 2, 2, 1);
        same("new", Scenes.scene(5), 1, 1, 1, 1, 1, 1, 1, 0, 0, 0, 0, 0, 0, 0, 0, 30, 20, 0, 0, 0);
        same("full", Scenes.scene(6), 1, 1, 1, 1, 1, 1, 1, 2, 0, 0, 16, 16, 16, 0, 3, 31, 25, 8, 16, 4);
    }

    private static void same(String what, Subject x, int... due) {
        for (int k = 0; k < due.length; k++) {
            EXPECT.same(what + ": info(" + k + ")", x.info(k), due[k]);
        }
    }

    private static void fields() {
        EXPECT.sentence("0..3: kind of field k.");
        for (int f = 0; f < 4; f++) {
            Subject x = new Subject().nonNullField(f);
            for (int k = 0; k < 4; k++) {
                EXPECT.same("field " + f + " NONNULL, info(" + k + ")", x.info(k), k == f ? 0 : 1);
            }
        }
    }

    private static void parameters() {
        EXPECT.sentence("4..6: parameter nullness of constructor k-3. 7..9: parameter init of constructor k-6.");
        for (int constructor = 1; constructor <= 3; constructor++) {
            for (int init = 0; init < 3; init++) {
                Subject x = new Subject().param(constructor, NullnessFlow.NONNULL, init);
                for (int k = 4; k <= 6; k++) {
                    EXPECT.same("info(" + k + ")", x.info(k), k - 3 == constructor ? 0 : 1);
                }
                for (int k = 7; k <= 9; k++) {
                    EXPECT.same("info(" + k + ")", x.info(k), k - 6 == constructor ? init : 0);
                }
            }
        }
    }

    private static void lengths() {
        EXPECT.sentence("10..13: len of block k-10.");
        for (int block = 0; block < 4; block++) {
            Subject x = new Subject().in(block);
            for (int len = 0; len <= 32; len++) {
                for (int k = 10; k <= 13; k++) {
                    EXPECT.same("info(" + k + ")", x.info(k), k - 10 == block ? len : 0);
                }
                x.emit(NullnessFlow.RET, 0, 0, 0);
            }
            EXPECT.same("len of a full block", x.info(10 + block), 32);
        }
    }

    private static void selection() {
        EXPECT.sentence("14: selected block.");
        for (int block = 0; block < 4; block++) {
            EXPECT.same("selected", new Subject().in(block).info(14), block);
        }
    }

    private static void statuses() {
        EXPECT.sentence("15: checker status. 16: machine status.");
        for (int status = Endings.FIRST; status <= Endings.LAST; status++) {
            Subject x = Endings.program(status);
            EXPECT.same("checker before check", x.info(15), NullnessFlow.UNCHECKED);
            EXPECT.same("machine before check", x.info(16), NullnessFlow.NOT_READY);
            x.check();
            EXPECT.same("machine after check", x.info(16), NullnessFlow.RUNNING);
            x.run(Endings.stepsBefore(status));
            EXPECT.same("machine before its end", x.info(16), NullnessFlow.RUNNING);
            x.run(1);
            EXPECT.same("machine", x.info(16), status);
            boolean onNull = status == NullnessFlow.TRAP_DEREF || status == NullnessFlow.TRAP_NONNULL;
            EXPECT.same("checker", x.info(15), onNull ? NullnessFlow.REJECTED : NullnessFlow.ACCEPTED);
        }
    }

    private static void counts() {
        EXPECT.sentence("17: number of objects. 18: number of outputs. 19: number of frames.");
        Subject many = new Subject().make(0, 1, 7).show(0).jump(0);
        many.check();
        for (int made = 0; made < 32; made++) {
            EXPECT.same("objects", many.info(17), made);
            EXPECT.same("outputs", many.info(18), Math.min(made, 16));
            many.run(1);
            EXPECT.same("objects within the constructor", many.info(17), made + 1);
            EXPECT.same("frames within the constructor", many.info(19), 2);
            many.run(3);
            EXPECT.same("frames", many.info(19), 1);
        }
        many.run(10000);
        EXPECT.same("most objects", many.info(17), 32);
        EXPECT.same("most outputs", many.info(18), 16);
        Subject deep = new Subject().make(0, 1, 7).in(1).make(2, 1, 7);
        deep.check();
        for (int frames = 1; frames <= 8; frames++) {
            EXPECT.same("frames", deep.info(19), frames);
            deep.run(1);
        }
        EXPECT.same("most frames", deep.info(19), 8);
    }

    private static void others() {
        EXPECT.sentence("Any other k: NONE.");
        for (int k : Beyond.range(0, 19)) {
            Scenes.answerNone(EXPECT, "info(" + k + ")", x -> x.info(k));
        }
    }

    private static void changesNothing() {
        EXPECT.sentence("Changes nothing.");
        for (int k = 0; k < 20; k++) {
            int n = k;
            Scenes.leaveAll(EXPECT, "info(" + n + ")", x -> x.info(n));
        }
    }
}
