import java.util.Arrays;

// Promise 8: state answers the SOLUTION at a point, here told edge by edge and for joins and loops.
public final class StateTest {
    private static final int NN = NullnessFlow.NONNULL;
    private static final int MAYBE = NullnessFlow.NULLABLE;
    private static final int COMMITTED = NullnessFlow.COMMITTED;
    private static final int FREE = NullnessFlow.FREE;
    private static final int UNCLASSIFIED = NullnessFlow.UNCLASSIFIED;
    private static final int NULLV = triple(MAYBE, COMMITTED, 0);

    private static final Expect EXPECT = new Expect();

    public static void main(String[] args) {
        refused();
        whenAnswered();
        entries();
        nullAndMove();
        news();
        gets();
        puts();
        tests();
        jumps();
        joins();
        loops();
        EXPECT.end();
    }

    private static int triple(int n, int i, int fields) {
        return n + 2 * i + 8 * fields;
    }

    private static void locals(String what, Subject x, int block, int pc, int... due) {
        for (int local = 0; local < due.length; local++) {
            String call = what + ": state(" + block + ", " + pc + ", " + local + ")";
            EXPECT.same(call, x.state(block, pc, local), due[local]);
        }
    }

    private static void refused() {
        Subject x = new Subject().nil(1).in(3).nil(1).nil(2);
        x.check();
        String before = x.picture();
        int[][] calls = {{-1, 0, 0}, {4, 0, 0}, {0, -1, 0}, {0, 2, 0}, {3, 3, 0}, {1, 1, 0}, {0, 0, -1}, {0, 0, 8}};
        for (int[] call : calls) {
            EXPECT.same("state" + Arrays.toString(call), x.state(call[0], call[1], call[2]), NullnessFlow.NONE);
        }
        for (int odd : new int[] {Integer.MIN_VALUE, Integer.MAX_VALUE}) {
            EXPECT.same("state, odd block", x.state(odd, 0, 0), NullnessFlow.NONE);
            EXPECT.same("state, odd pc", x.state(0, odd, 0), NullnessFlow.NONE);
            EXPECT.same("state, odd local", x.state(0, 0, odd), NullnessFlow.NONE);
        }
        EXPECT.same("state at END", x.state(3, 2, 7), NULLV);
        EXPECT.same("state at END of an empty block", x.state(1, 0, 0), triple(NN, FREE, 0));
        EXPECT.same("picture", x.picture(), before);
    }

    private static void whenAnswered() {
        int[] due = {NullnessFlow.NONE, NULLV, NULLV, NULLV, NULLV};
        for (int scene = 0; scene < Scenes.COUNT; scene++) {
            EXPECT.same(Scenes.name(scene), Scenes.scene(scene).state(0, 0, 0), due[scene]);
        }
        Subject x = Scenes.scene(1);
        x.declareField(0, 1);
        EXPECT.same("after an edit", x.state(0, 0, 0), NullnessFlow.NONE);
        Subject rejected = new Subject().get(0, 0, 0).make(3, 1, 4).in(3).nil(0);
        EXPECT.same("rejected", rejected.check(), NullnessFlow.ERR_DEREF);
        EXPECT.same("beyond the reported error", rejected.state(0, 2, 3), triple(NN, COMMITTED, 0));
        EXPECT.same("this, though it may not be assigned", rejected.state(3, 1, 0), NULLV);
    }

    private static void entries() {
        Subject x = new Subject().param(1, NN, UNCLASSIFIED).param(2, NN, FREE).param(3, MAYBE, FREE);
        x.check();
        int self = triple(NN, FREE, 0);
        locals("entry of MAIN", x, 0, 0, NULLV, NULLV, NULLV, NULLV, NULLV, NULLV, NULLV, NULLV);
        locals("entry", x, 1, 0, self, triple(NN, UNCLASSIFIED, 0), NULLV, NULLV, NULLV, NULLV, NULLV, NULLV);
        locals("entry", x, 2, 0, self, triple(NN, FREE, 0), NULLV, NULLV, NULLV, NULLV, NULLV, NULLV);
        locals("entry", x, 3, 0, self, triple(MAYBE, FREE, 0), NULLV, NULLV, NULLV, NULLV, NULLV, NULLV);
    }

    private static void nullAndMove() {
        Subject x = new Subject().param(1, NN, UNCLASSIFIED).in(1).put(1, 2, 0).move(5, 1).nil(1).move(5, 5);
        x.check();
        int known = triple(NN, UNCLASSIFIED, 4);
        locals("MOVE", x, 1, 2, triple(NN, FREE, 0), known, NULLV, NULLV, NULLV, known);
        locals("NULL", x, 1, 3, triple(NN, FREE, 0), NULLV, NULLV, NULLV, NULLV, known);
        locals("MOVE to itself", x, 1, 4, triple(NN, FREE, 0), NULLV, NULLV, NULLV, NULLV, known);
    }

    private static void news() {
        Subject x = new Subject().nonNullField(1).nonNullField(3).param(1, NN, UNCLASSIFIED).in(1);
        for (int f = 0; f < 4; f++) {
            x.put(0, f, 0).put(1, f, 0);
        }
        x.make(2, 2, 0).make(3, 2, 1).make(4, 2, 5).make(1, 2, 1);
        x.check();
        EXPECT.same("all fields known", x.state(1, 8, 0), triple(NN, FREE, 15));
        EXPECT.same("all fields known", x.state(1, 8, 1), triple(NN, UNCLASSIFIED, 15));
        locals("NEW", x, 1, 11, triple(NN, FREE, 10), triple(NN, UNCLASSIFIED, 10), triple(NN, FREE, 0),
                triple(NN, UNCLASSIFIED, 0), triple(NN, COMMITTED, 0), NULLV);
        EXPECT.same("NEW into its own argument", x.state(1, 12, 1), triple(NN, UNCLASSIFIED, 0));
    }

    private static void gets() {
        Subject x = new Subject().nonNullField(1).param(1, NN, UNCLASSIFIED).param(2, NN, COMMITTED);
        x.in(1).get(2, 0, 0).get(3, 0, 1).get(4, 1, 0).put(0, 0, 0).get(5, 0, 0).get(6, 2, 0).put(1, 2, 0).get(1, 1, 2);
        x.in(2).get(2, 1, 0).get(3, 1, 1).put(1, 0, 1).get(4, 1, 0).get(1, 1, 0);
        x.check();
        EXPECT.same("NULLABLE field of FREE", x.state(1, 8, 2), triple(MAYBE, UNCLASSIFIED, 0));
        EXPECT.same("NONNULL field of FREE", x.state(1, 8, 3), triple(NN, UNCLASSIFIED, 0));
        EXPECT.same("NULLABLE field of UNCLASSIFIED", x.state(1, 8, 4), triple(MAYBE, UNCLASSIFIED, 0));
        EXPECT.same("known field of FREE", x.state(1, 8, 5), triple(NN, UNCLASSIFIED, 0));
        EXPECT.same("field of what may be null", x.state(1, 8, 6), triple(MAYBE, UNCLASSIFIED, 0));
        EXPECT.same("GET into its own source", x.state(1, 8, 1), triple(NN, UNCLASSIFIED, 0));
        EXPECT.same("NULLABLE field of COMMITTED", x.state(2, 5, 2), triple(MAYBE, COMMITTED, 0));
        EXPECT.same("NONNULL field of COMMITTED", x.state(2, 5, 3), triple(NN, COMMITTED, 0));
        EXPECT.same("known field of COMMITTED", x.state(2, 5, 4), triple(NN, COMMITTED, 0));
        EXPECT.same("GET into its own source", x.state(2, 5, 1), triple(NN, COMMITTED, 0));
    }

    private static void puts() {
        Subject x = new Subject().in(1).put(0, 0, 0).put(0, 3, 0).move(2, 0).put(2, 1, 0)
                .put(2, 3, 4).put(4, 2, 0).put(2, 2, 4);
        x.check();
        int four = triple(MAYBE, COMMITTED, 4);
        EXPECT.same("PUT of what is not null", x.state(1, 2, 0), triple(NN, FREE, 9));
        EXPECT.same("PUT into a copy", x.state(1, 4, 2), triple(NN, FREE, 11));
        EXPECT.same("PUT into a copy leaves the first", x.state(1, 4, 0), triple(NN, FREE, 9));
        EXPECT.same("PUT of null, the local", x.state(1, 5, 2), triple(NN, FREE, 3));
        EXPECT.same("PUT of null, its copy", x.state(1, 5, 0), triple(NN, FREE, 1));
        EXPECT.same("PUT into null", x.state(1, 6, 4), four);
        EXPECT.same("PUT of a field not known", x.state(1, 7, 2), triple(NN, FREE, 3));
        EXPECT.same("PUT of null, other local", x.state(1, 7, 4), NULLV);
        Subject kept = new Subject().nonNullField(2).in(1).put(0, 2, 0).put(0, 2, 1);
        kept.check();
        EXPECT.same("PUT of null into a NONNULL field", kept.state(1, 2, 0), triple(NN, FREE, 0));
    }

    private static void tests() {
        Subject x = new Subject().param(1, MAYBE, FREE).in(1).put(1, 0, 0).ifNull(1, 4).show(0).ret().show(0);
        x.check();
        EXPECT.same("IFNULL, not null", x.state(1, 2, 1), triple(NN, FREE, 1));
        EXPECT.same("IFNULL, null", x.state(1, 4, 1), NULLV);
        EXPECT.same("IFNULL leaves the others", x.state(1, 4, 0), triple(NN, FREE, 0));
        Subject y = new Subject().param(1, MAYBE, FREE).in(1).put(1, 0, 0).ifNonNull(1, 4).show(0).ret().show(0);
        y.check();
        EXPECT.same("IFNONNULL, not null", y.state(1, 4, 1), triple(NN, FREE, 1));
        EXPECT.same("IFNONNULL, null", y.state(1, 2, 1), NULLV);
        Subject same = new Subject().param(1, MAYBE, FREE).in(1).put(1, 0, 0).ifNull(1, 2).show(0);
        same.check();
        EXPECT.same("IFNULL, both ways to one point", same.state(1, 2, 1), triple(MAYBE, UNCLASSIFIED, 0));
        Subject never = new Subject().in(1).ifNull(0, 3).ifNonNull(0, 4).show(0).show(0).show(0);
        never.check();
        locals("IFNULL of this, not null", never, 1, 1, triple(NN, FREE, 0));
        locals("IFNULL of this, null; IFNONNULL of this, null", never, 1, 2, -1, -1, -1, -1, -1, -1, -1, -1);
        locals("behind it", never, 1, 3, -1, -1, -1, -1, -1, -1, -1, -1);
        locals("IFNONNULL of this, not null", never, 1, 4, triple(NN, FREE, 0));
    }

    private static void jumps() {
        for (int target : new int[] {2, 3, 32}) {
            Subject x = new Subject().jump(target).nil(0);
            x.check();
            EXPECT.same("behind a jump", x.state(0, 1, 0), -1);
            EXPECT.same("a jump to " + target + ", END", x.state(0, 2, 0), NULLV);
            Subject y = new Subject().make(0, 1, 1).ifNonNull(0, target == 2 ? 3 : target).nil(0);
            y.check();
            EXPECT.same("behind a test that always jumps", y.state(0, 2, 0), -1);
            EXPECT.same("a test that jumps to END", y.state(0, 3, 0), triple(NN, COMMITTED, 0));
        }
        Subject ret = new Subject().make(3, 1, 4).ret().nil(3).show(3);
        ret.check();
        EXPECT.same("behind RET", ret.state(0, 2, 3), -1);
        EXPECT.same("RET", ret.state(0, 4, 3), triple(NN, COMMITTED, 0));
        Subject round = new Subject().jump(0);
        round.check();
        EXPECT.same("a jump to itself", round.state(0, 0, 0), NULLV);
        EXPECT.same("END not reached", round.state(0, 1, 7), -1);
    }

    private static void joins() {
        Subject x = new Subject().param(1, NN, UNCLASSIFIED).param(2, NN, COMMITTED).param(3, NN, FREE);
        for (int k = 1; k <= 3; k++) {
            // Local 4 is this with fields 0 and 1 known, or else the parameter with fields 1 and 2 known. The checker
            // takes both ways, as it does not tell a local that is null from one that may be.
            x.in(k).ifNull(2, 5).move(4, 0).put(4, 0, 0).put(4, 1, 0).jump(8);
            x.move(4, 1).put(4, 1, 0).put(4, 2, 0).show(4);
        }
        x.check();
        EXPECT.same("FREE with UNCLASSIFIED", x.state(1, 8, 4), triple(NN, UNCLASSIFIED, 2));
        EXPECT.same("FREE with COMMITTED", x.state(2, 8, 4), triple(NN, UNCLASSIFIED, 2));
        EXPECT.same("FREE with FREE", x.state(3, 8, 4), triple(NN, FREE, 2));
        EXPECT.same("not null with null", x.state(3, 8, 2), NULLV);
        Subject y = new Subject().ifNull(0, 2).make(1, 1, 2).show(1);
        y.check();
        EXPECT.same("COMMITTED with COMMITTED", y.state(0, 2, 1), NULLV);
        EXPECT.same("before the join", y.state(0, 1, 1), NULLV);
    }

    private static void loops() {
        Subject x = new Subject().make(0, 1, 7).move(1, 0).move(2, 0).move(3, 0).show(3)
                .move(3, 2).move(2, 1).move(1, 6).ifNull(5, 4);
        x.check();
        EXPECT.same("null carried through three rounds", x.state(0, 4, 3), NULLV);
        EXPECT.same("null carried through two rounds", x.state(0, 4, 2), NULLV);
        EXPECT.same("what the loop leaves alone", x.state(0, 4, 0), triple(NN, COMMITTED, 0));
        EXPECT.same("before the loop", x.state(0, 3, 2), triple(NN, COMMITTED, 0));
        Subject y = new Subject().in(1).put(0, 0, 0).put(0, 1, 0).get(2, 0, 0).put(0, 0, 3).jump(1);
        y.check();
        EXPECT.same("what the loop takes away", y.state(1, 1, 0), triple(NN, FREE, 0));
        EXPECT.same("what the loop puts back", y.state(1, 2, 0), triple(NN, FREE, 2));
        EXPECT.same("what is got is then not known", y.state(1, 3, 2), triple(MAYBE, UNCLASSIFIED, 0));
        // Here the second round of a sweep forward raises nothing but a point that the null way leads back to.
        Subject back = new Subject().ifNull(6, 5).make(0, 1, 7).move(2, 0).show(2).ifNull(5, 2).nil(0).jump(4);
        back.check();
        EXPECT.same("null carried back by a test", back.state(0, 2, 0), NULLV);
        EXPECT.same("and on from there", back.state(0, 3, 2), NULLV);
        Subject entry = new Subject().make(0, 1, 0).jump(0);
        entry.check();
        EXPECT.same("a loop to point 0 joins with ENTRY", entry.state(0, 0, 0), NULLV);
        EXPECT.same("a loop to point 0", entry.state(0, 1, 0), triple(NN, COMMITTED, 0));
    }
}
