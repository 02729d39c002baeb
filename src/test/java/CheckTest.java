import java.util.Arrays;

// Promise 6: check answers the reported error, sets the checker's status and puts the machine at START.
public final class CheckTest {
    private static final int NN = NullnessFlow.NONNULL;
    private static final int MAYBE = NullnessFlow.NULLABLE;
    private static final int COMMITTED = NullnessFlow.COMMITTED;
    private static final int FREE = NullnessFlow.FREE;
    private static final int UNCLASSIFIED = NullnessFlow.UNCLASSIFIED;

    private static final Expect EXPECT = new Expect();

    public static void main(String[] args) {
        empty();
        thisRule();
        newRules();
        getRules();
        putRules();
        endRule();
        ruleOrder();
        leastPlace();
        onlyReached();
        atStart();
        changesNoProgram();
        EXPECT.end();
    }

    private static void answers(String what, Subject x, int error, int where) {
        EXPECT.same(what + ": check", x.check(), error);
        EXPECT.same(what + ": status", x.info(15), error == 0 ? NullnessFlow.ACCEPTED : NullnessFlow.REJECTED);
        EXPECT.same(what + ": errorWhere", x.errorWhere(), where);
        EXPECT.same(what + ": check again", x.check(), error);
        EXPECT.same(what + ": errorWhere again", x.errorWhere(), where);
    }

    private static void accepted(String what, Subject x) {
        answers(what, x, NullnessFlow.OK, -1);
    }

    private static void empty() {
        accepted("empty", new Subject());
        answers("empty constructors with a NONNULL field", new Subject().nonNullField(2),
                NullnessFlow.ERR_INCOMPLETE, 64);
    }

    private static void thisRule() {
        accepted("MAIN may assign local 0", new Subject().nil(0).move(0, 1).make(0, 1, 0).get(0, 0, 0));
        for (int block = 1; block < 4; block++) {
            int here = 64 * block;
            answers("NULL this", new Subject().in(block).nil(0), NullnessFlow.ERR_THIS, here);
            answers("MOVE this", new Subject().in(block).move(0, 1), NullnessFlow.ERR_THIS, here);
            answers("NEW this", new Subject().in(block).make(0, 1, 2), NullnessFlow.ERR_THIS, here);
            answers("GET this", new Subject().in(block).get(0, 0, 0), NullnessFlow.ERR_THIS, here);
            accepted("this may be used", new Subject().in(block).move(1, 0).put(0, 0, 0).get(2, 0, 0).show(0)
                    .ifNull(0, 0).ifNonNull(0, 9).jump(0));
        }
    }

    private static void newRules() {
        for (int k = 1; k <= 3; k++) {
            answers("null to NONNULL", new Subject().param(k, NN, COMMITTED).make(0, k, 1),
                    NullnessFlow.ERR_NULLARG, 0);
            accepted("null to NULLABLE", new Subject().param(k, MAYBE, COMMITTED).make(0, k, 1));
            accepted("not null to NONNULL", new Subject().param(k, NN, COMMITTED).make(0, k % 3 + 1, 1).make(2, k, 0));
            answers("committed to FREE", new Subject().param(k, MAYBE, FREE).make(0, k, 1),
                    NullnessFlow.ERR_INITARG, 0);
            accepted("committed to UNCLASSIFIED", new Subject().param(k, MAYBE, UNCLASSIFIED).make(0, k, 1));
            int from = k % 3 + 1;
            int place = 64 * from;
            accepted("free to FREE", new Subject().param(k, NN, FREE).in(from).make(2, k, 0));
            accepted("free to UNCLASSIFIED", new Subject().param(k, NN, UNCLASSIFIED).in(from).make(2, k, 0));
            answers("free to COMMITTED", new Subject().param(k, NN, COMMITTED).in(from).make(2, k, 0),
                    NullnessFlow.ERR_INITARG, place);
            answers("unclassified to COMMITTED", unclassified(from).param(k, NN, COMMITTED).make(2, k, 1),
                    NullnessFlow.ERR_INITARG, place);
            answers("unclassified to FREE", unclassified(from).param(k, NN, FREE).make(2, k, 1),
                    NullnessFlow.ERR_INITARG, place);
            accepted("unclassified to UNCLASSIFIED", unclassified(from).param(k, NN, UNCLASSIFIED).make(2, k, 1));
        }
    }

    // Writes into a constructor whose local 1 is not null and UNCLASSIFIED.
    private static Subject unclassified(int block) {
        return new Subject().param(block, NN, UNCLASSIFIED).in(block);
    }

    private static void getRules() {
        answers("get of null", new Subject().get(0, 1, 0), NullnessFlow.ERR_DEREF, 0);
        answers("get of a NULLABLE parameter", new Subject().in(3).get(2, 1, 0), NullnessFlow.ERR_DEREF, 192);
        accepted("get behind IFNULL", new Subject().in(3).ifNull(1, 2).get(2, 1, 0));
        accepted("get behind IFNONNULL", new Subject().in(3).ifNonNull(1, 2).ret().get(2, 1, 0));
        accepted("a NULLABLE field of a free object", new Subject().in(1).get(2, 0, 0));
        answers("a NONNULL field of a free object", completed().in(1).get(2, 0, 1).put(0, 1, 0),
                NullnessFlow.ERR_UNINIT, 64);
        accepted("a NONNULL field of a free object, once put", completed().in(1).put(0, 1, 0).get(2, 0, 1));
        answers("a NONNULL field of an unclassified object",
                completed().param(1, NN, UNCLASSIFIED).in(1).put(0, 1, 0).get(2, 1, 1), NullnessFlow.ERR_UNINIT, 65);
        accepted("a NONNULL field of a committed object",
                completed().param(1, NN, COMMITTED).in(1).put(0, 1, 0).get(2, 1, 1));
        accepted("what a NONNULL field holds is not null",
                completed().in(1).put(0, 1, 0).in(0).make(0, 2, 1).get(1, 0, 1).get(2, 1, 1));
        answers("what a NULLABLE field holds may be null",
                completed().in(1).put(0, 1, 0).in(0).make(0, 2, 1).get(1, 0, 0).get(2, 1, 1),
                NullnessFlow.ERR_DEREF, 2);
        accepted("what was put into a NULLABLE field",
                new Subject().make(0, 1, 1).put(0, 0, 0).get(1, 0, 0).get(2, 1, 0));
        answers("a NEW may take away what was put into a NULLABLE field",
                new Subject().make(0, 1, 1).put(0, 0, 0).make(3, 1, 0).get(1, 0, 0).get(2, 1, 0),
                NullnessFlow.ERR_DEREF, 4);
    }

    // Field 1 is NONNULL; constructors 2 and 3 set it, constructor 1 is left to the test.
    private static Subject completed() {
        return new Subject().nonNullField(1).in(2).put(0, 1, 0).in(3).put(0, 1, 0);
    }

    private static void putRules() {
        answers("put into null", new Subject().put(0, 0, 1), NullnessFlow.ERR_DEREF, 0);
        answers("null into a NONNULL field", completed().in(1).put(0, 1, 2), NullnessFlow.ERR_NULLSTORE, 64);
        accepted("null into a NULLABLE field", new Subject().in(1).put(0, 1, 2));
        accepted("free into free", new Subject().in(1).put(0, 0, 0));
        accepted("unclassified into free", unclassified(1).put(0, 0, 1));
        accepted("committed into free", new Subject().param(1, NN, COMMITTED).in(1).put(0, 0, 1));
        accepted("committed into committed", new Subject().param(1, NN, COMMITTED).in(1).put(1, 0, 1));
        accepted("committed into unclassified", unclassified(1).put(1, 0, 2));
        answers("free into committed", new Subject().param(1, NN, COMMITTED).in(1).put(1, 0, 0),
                NullnessFlow.ERR_ESCAPE, 64);
        answers("free into unclassified", unclassified(1).put(1, 0, 0), NullnessFlow.ERR_ESCAPE, 64);
        answers("unclassified into unclassified", unclassified(1).put(1, 0, 1), NullnessFlow.ERR_ESCAPE, 64);
        answers("unclassified into committed", unclassified(1).make(2, 2, 3).put(2, 0, 1), NullnessFlow.ERR_ESCAPE, 65);
    }

    private static void endRule() {
        Subject all = new Subject().nonNullField(0).nonNullField(3);
        for (int k = 1; k <= 3; k++) {
            all.in(k).put(0, 3, 0).put(0, 0, 0);
        }
        accepted("all NONNULL fields put", all);
        answers("one field missing", completed().nonNullField(0).in(1).put(0, 1, 0), NullnessFlow.ERR_INCOMPLETE, 65);
        answers("put into a copy of this", completed().in(1).move(2, 0).put(2, 1, 0), NullnessFlow.ERR_INCOMPLETE, 66);
        accepted("NULLABLE fields need no put", completed().in(1).put(0, 1, 0));
        answers("put on one way only", completed().in(1).ifNull(1, 2).put(0, 1, 0), NullnessFlow.ERR_INCOMPLETE, 66);
        answers("put after RET on one way", completed().in(1).ifNull(1, 2).ret().put(0, 1, 0),
                NullnessFlow.ERR_INCOMPLETE, 67);
        answers("a jump far beyond len", completed().in(1).ifNull(1, 32).put(0, 1, 0), NullnessFlow.ERR_INCOMPLETE, 66);
        accepted("put on both ways", completed().in(1).ifNull(1, 3).put(0, 1, 1).ret().put(0, 1, 0)
                .param(1, MAYBE, UNCLASSIFIED));
        accepted("END not reached", completed().in(1).jump(0));
        accepted("MAIN has nothing to complete", completed().in(1).put(0, 1, 0).in(0).nil(0));
    }

    private static void ruleOrder() {
        answers("THIS before NULLARG", new Subject().param(2, NN, FREE).in(1).make(0, 2, 1), NullnessFlow.ERR_THIS, 64);
        answers("THIS before DEREF", new Subject().in(1).get(0, 1, 0), NullnessFlow.ERR_THIS, 64);
        answers("NULLARG before INITARG", new Subject().param(2, NN, FREE).make(0, 2, 1), NullnessFlow.ERR_NULLARG, 0);
        answers("DEREF before UNINIT", completed().param(1, MAYBE, FREE).in(1).get(2, 1, 1),
                NullnessFlow.ERR_DEREF, 64);
        answers("DEREF before NULLSTORE", completed().in(1).put(1, 1, 2), NullnessFlow.ERR_DEREF, 64);
        answers("NULLSTORE before ESCAPE", completed().param(1, MAYBE, UNCLASSIFIED).in(1).make(3, 2, 4).put(3, 1, 1),
                NullnessFlow.ERR_NULLSTORE, 65);
    }

    private static void leastPlace() {
        Subject x = new Subject().nonNullField(0);
        answers("constructor 1's end", x, NullnessFlow.ERR_INCOMPLETE, 64);
        x.in(1).put(0, 0, 0);
        answers("constructor 2's end", x, NullnessFlow.ERR_INCOMPLETE, 128);
        x.in(2).put(0, 0, 0);
        answers("constructor 3's end", x, NullnessFlow.ERR_INCOMPLETE, 192);
        x.in(3).put(0, 0, 1);
        answers("constructor 3's null store", x, NullnessFlow.ERR_NULLSTORE, 192);
        x.in(2).nil(0);
        answers("constructor 2's this", x, NullnessFlow.ERR_THIS, 129);
        x.in(1).show(0).get(2, 3, 0);
        answers("constructor 1's get", x, NullnessFlow.ERR_DEREF, 66);
        x.in(0).show(0).put(2, 0, 2).get(2, 2, 0);
        answers("MAIN's put", x, NullnessFlow.ERR_DEREF, 1);
        Subject full = new Subject().nonNullField(0).in(3).put(0, 0, 0).in(2).put(0, 0, 0).in(1);
        for (int i = 0; i < 32; i++) {
            full.show(0);
        }
        answers("the end of a full block", full, NullnessFlow.ERR_INCOMPLETE, 96);
    }

    private static void onlyReached() {
        accepted("behind RET", new Subject().ret().get(0, 0, 0));
        accepted("behind JMP", new Subject().jump(2).get(0, 0, 0).show(0));
        accepted("the null way of what is not null", new Subject().make(0, 1, 1).ifNull(0, 3).ret().get(2, 3, 0));
        accepted("the null way of what is not null", new Subject().make(0, 1, 1).ifNonNull(0, 3).get(2, 3, 0));
        answers("a loop brings null", new Subject().make(0, 1, 1).get(1, 0, 0).nil(0).jump(1),
                NullnessFlow.ERR_DEREF, 1);
        answers("reached by a backward jump alone", new Subject().jump(3).get(0, 0, 0).ret().jump(1),
                NullnessFlow.ERR_DEREF, 1);
    }

    private static void atStart() {
        for (int scene = 0; scene < Scenes.COUNT; scene++) {
            String what = Scenes.name(scene) + ", check";
            Subject x = Scenes.scene(scene);
            x.check();
            EXPECT.same(what + ": machine", x.info(16), NullnessFlow.RUNNING);
            EXPECT.same(what + ": objects", x.info(17), 0);
            EXPECT.same(what + ": outputs", x.info(18), 0);
            EXPECT.same(what + ": frames", x.info(19), 1);
            EXPECT.same(what + ": block", x.frame(0, 8), 0);
            EXPECT.same(what + ": pc", x.frame(0, 9), 0);
            for (int slot : new int[] {0, 1, 2, 3, 4, 5, 6, 7, 10, 11}) {
                EXPECT.same(what + ": slot " + slot, x.frame(0, slot), -1);
            }
            String started = x.picture();
            x.run(100);
            x.check();
            EXPECT.same(what + " again", x.picture(), started);
        }
    }

    private static void changesNoProgram() {
        for (int scene = 0; scene < Scenes.COUNT; scene++) {
            Subject x = Scenes.scene(scene);
            int[] before = Scenes.program(x);
            x.check();
            EXPECT.same(Scenes.name(scene) + ", program after check",
                    Arrays.toString(Scenes.program(x)), Arrays.toString(before));
        }
    }
}
