// The section "The program": where a block ends, what a target beyond it means, and what operands an op ignores. The
// checker and the machine must both keep to it.
public final class ProgramTest {
    private static final int NONE = NullnessFlow.NONE;
    private static final int RUNNING = NullnessFlow.RUNNING;
    private static final int HALTED = NullnessFlow.HALTED;

    private static final Expect EXPECT = new Expect();

    public static void main(String[] args) {
        lengths();
        end();
        jumpTargets();
        nullTargets();
        nonNullTargets();
        lenOfItsOwnBlock();
        lenAsItIsNow();
        unusedOperands();
        testsOfLocals();
        returns();
        nextPoint();
        EXPECT.end();
    }

    private static void lengths() {
        EXPECT.sentence("A block holds len instructions (0 <= len <= codeCap) at pcs 0..len-1.");
        for (int cap : new int[] {8, 16, 32}) {
            for (int block = 0; block < 4; block++) {
                Subject x = new Subject(cap, 8, 1).in(block);
                for (int len = 0; len <= cap; len++) {
                    EXPECT.same("len", x.info(10 + block), len);
                    EXPECT.same("before the first", x.code(block, -1, 0), NONE);
                    EXPECT.same("the first", x.code(block, 0, 0), len > 0 ? NullnessFlow.OUT : NONE);
                    EXPECT.same("the last", x.code(block, len - 1, 0), len > 0 ? NullnessFlow.OUT : NONE);
                    EXPECT.same("behind the last", x.code(block, len, 0), NONE);
                    EXPECT.same("one more", x.emit(NullnessFlow.OUT, 0, 0, 0) ? 1 : 0, len < cap ? 1 : 0);
                }
            }
        }
    }

    private static void end() {
        EXPECT.sentence("The point len is the block's END.");
        for (int len = 0; len <= 32; len++) {
            Subject x = new Subject().pad(len).in(1).pad(len);
            x.check();
            EXPECT.same("the checker's END of MAIN", x.state(0, len, 0), 1);
            EXPECT.same("the checker's END of a constructor", x.state(1, len, 0), 2);
            EXPECT.same("beyond END", x.state(1, len + 1, 0), NONE);
            EXPECT.same("to END", x.run(len), RUNNING);
            EXPECT.same("pc at END", x.frame(0, 9), len);
            EXPECT.same("from END", x.run(1), HALTED);
            Subject y = new Subject().make(0, 1, 7).in(1).pad(len);
            y.check();
            y.run(len + 1);
            EXPECT.same("a constructor at END", y.frame(1, 9), len);
            y.run(1);
            EXPECT.same("a constructor from END", y.info(19), 1);
        }
    }

    private static final String BEYOND = "Any target t >= len (len of the block the jump is in) means END.";

    // MAIN of six instructions whose first one goes to t; the checker reaches t but none of the points between.
    private static void jumpTargets() {
        EXPECT.sentence(BEYOND);
        for (int t = 1; t <= 16; t++) {
            Subject x = new Subject(16, 8, 1).jump(t).pad(5);
            x.check();
            int goal = Math.min(t, 6);
            for (int point = 1; point <= 6; point++) {
                EXPECT.same("JMP " + t + ", point " + point, x.state(0, point, 0), point < goal ? -1 : 1);
            }
            EXPECT.same("JMP " + t + ": before END", x.run(1 + 6 - goal), RUNNING);
            EXPECT.same("JMP " + t + ": END", x.run(1), HALTED);
        }
    }

    // The null way carries NULLV in local 1 to t; the other way ends at a jump to itself.
    private static void nullTargets() {
        EXPECT.sentence(BEYOND);
        for (int t = 2; t <= 16; t++) {
            Subject x = new Subject(16, 8, 1).ifNull(1, t).jump(1).pad(4);
            x.check();
            reachedFrom("IFNULL " + t, x, t);
            EXPECT.same("IFNULL " + t + ": before END", x.run(1 + 6 - Math.min(t, 6)), RUNNING);
            EXPECT.same("IFNULL " + t + ": END", x.run(1), HALTED);
        }
    }

    private static void nonNullTargets() {
        EXPECT.sentence(BEYOND);
        for (int t = 2; t <= 16; t++) {
            Subject x = new Subject(16, 8, 2).make(2, 1, 7).in(1).ifNonNull(0, t).jump(1).pad(4);
            x.check();
            int goal = Math.min(t, 6);
            for (int point = 1; point <= 6; point++) {
                EXPECT.same("IFNONNULL " + t + ", point " + point, x.state(1, point, 0), point < goal ? -1 : 2);
            }
            x.run(1);
            x.run(1 + 6 - goal);
            EXPECT.same("IFNONNULL " + t + ": before END", x.info(19), 2);
            x.run(1);
            EXPECT.same("IFNONNULL " + t + ": END", x.info(19), 1);
        }
    }

    private static void reachedFrom(String what, Subject x, int t) {
        for (int point = 2; point <= 6; point++) {
            EXPECT.same(what + ", point " + point, x.state(0, point, 1), point < Math.min(t, 6) ? -1 : 1);
        }
    }

    private static void lenOfItsOwnBlock() {
        EXPECT.sentence(BEYOND);
        for (int shorter = 0; shorter < 4; shorter++) {
            Subject x = new Subject();
            for (int block = 0; block < 4; block++) {
                x.in(block).jump(4).pad(block == shorter ? 2 : 9);
            }
            x.check();
            for (int block = 0; block < 4; block++) {
                if (block == shorter) {
                    EXPECT.same("END of the short block", x.state(block, 3, 7), 1);
                } else {
                    EXPECT.same("before the target in a long block", x.state(block, 3, 7), -1);
                    EXPECT.same("the target in a long block", x.state(block, 4, 7), 1);
                }
            }
            EXPECT.same("MAIN's jump", x.run(2), shorter == 0 ? HALTED : RUNNING);
        }
    }

    // A target that lay beyond END when it was emitted is a point of the block once the block has grown.
    private static void lenAsItIsNow() {
        EXPECT.sentence(BEYOND);
        Subject x = new Subject().jump(3);
        x.check();
        EXPECT.same("END at first", x.state(0, 1, 0), 1);
        EXPECT.same("steps at first", x.run(2), HALTED);
        x.pad(2).get(0, 1, 0);
        EXPECT.same("check once grown", x.check(), NullnessFlow.ERR_DEREF);
        EXPECT.same("the target once grown", x.errorWhere(), 3);
        EXPECT.same("a point that is jumped over", x.state(0, 2, 0), -1);
        EXPECT.same("steps once grown", x.run(2), NullnessFlow.TRAP_DEREF);
    }

    private static void unusedOperands() {
        EXPECT.sentence("Operands an op does not use are ignored and stored as 0.");
        Subject plain = new Subject().make(0, 1, 7).move(2, 0).nil(0).show(2).ifNull(0, 6).ret().ifNonNull(2, 8)
                .ret().jump(10).ret().show(0);
        plain.check();
        plain.run(100);
        for (int rubbish : Beyond.anything()) {
            Subject x = new Subject().make(0, 1, 7);
            x.emit(NullnessFlow.MOVE, 2, 0, rubbish);
            x.emit(NullnessFlow.NULL, 0, rubbish, rubbish);
            x.emit(NullnessFlow.OUT, 2, rubbish, rubbish);
            x.emit(NullnessFlow.IFNULL, 0, 6, rubbish);
            x.emit(NullnessFlow.RET, rubbish, rubbish, rubbish);
            x.emit(NullnessFlow.IFNONNULL, 2, 8, rubbish);
            x.emit(NullnessFlow.RET, rubbish, rubbish, rubbish);
            x.emit(NullnessFlow.JMP, 10, rubbish, rubbish);
            x.emit(NullnessFlow.RET, rubbish, rubbish, rubbish);
            x.emit(NullnessFlow.OUT, 0, rubbish, rubbish);
            EXPECT.same("check", x.check(), NullnessFlow.OK);
            x.run(100);
            EXPECT.same("with " + rubbish + " in what is not used", x.picture(), plain.picture());
        }
    }

    private static void pcAfter(String what, Subject x, int steps, int due) {
        x.check();
        EXPECT.same(what, x.run(steps), RUNNING);
        EXPECT.same(what + ": pc", x.frame(0, 9), due);
    }

    // Both ops for each local, with null or an object in it, to a target before, at and behind the op.
    private static void testsOfLocals() {
        EXPECT.sentence("IFNULL (a=s, b=t): if s is null go to t, else to pc+1.");
        for (int local = 0; local < 8; local++) {
            for (int t : new int[] {0, 1, 2, 3, 5, 32}) {
                pcAfter("IFNULL of null", new Subject().nil(local).ifNull(local, t).pad(3), 2, t);
                pcAfter("IFNULL of an object", new Subject().make(local, 1, 0).ifNull(local, t).pad(3), 3, 2);
            }
        }
        EXPECT.sentence("IFNONNULL (a=s, b=t): if s is not null go to t, else to pc+1.");
        for (int local = 0; local < 8; local++) {
            for (int t : new int[] {0, 1, 2, 3, 5, 32}) {
                pcAfter("IFNONNULL of null", new Subject().nil(local).ifNonNull(local, t).pad(3), 2, 2);
                pcAfter("IFNONNULL of an object", new Subject().make(local, 1, 0).ifNonNull(local, t).pad(3), 3, t);
            }
        }
    }

    private static void returns() {
        EXPECT.sentence("RET (): go to END.");
        for (int len = 1; len <= 32; len++) {
            for (int at = 0; at < len; at++) {
                Subject x = new Subject().pad(at).ret().pad(len - at - 1);
                x.check();
                for (int point = at + 1; point < len; point++) {
                    EXPECT.same("behind RET", x.state(0, point, 0), -1);
                }
                EXPECT.same("END", x.state(0, len, 0), 1);
                EXPECT.same("steps before RET", x.run(at), RUNNING);
                EXPECT.same("RET", x.run(1), HALTED);
            }
        }
    }

    // Each op that goes on, as the last one of a block, which is full or has room.
    private static void nextPoint() {
        EXPECT.sentence("All other ops go on to pc+1 (pc+1 == len is END).");
        int[][] ops = {{NullnessFlow.NULL, 1, 0, 0}, {NullnessFlow.MOVE, 1, 0, 0}, {NullnessFlow.NEW, 1, 1, 0},
            {NullnessFlow.GET, 1, 0, 3}, {NullnessFlow.PUT, 0, 3, 0}, {NullnessFlow.OUT, 0, 0, 0},
            {NullnessFlow.IFNULL, 0, 0, 0}, {NullnessFlow.IFNONNULL, 7, 0, 0}};
        for (int[] op : ops) {
            for (int len : new int[] {2, 8, 31, 32}) {
                Subject x = new Subject().make(0, 1, 7).pad(len - 2);
                x.emit(op[0], op[1], op[2], op[3]);
                x.check();
                EXPECT.same("op " + op[0] + ": END is reached", x.state(0, len, 6), 1);
                boolean makes = op[0] == NullnessFlow.NEW;
                EXPECT.same("op " + op[0], x.run(len + (makes ? 2 : 1)), RUNNING);
                EXPECT.same("op " + op[0] + ": pc", x.frame(0, 9), len);
                EXPECT.same("op " + op[0] + ": frames", x.info(19), 1);
                EXPECT.same("op " + op[0] + " at END", x.run(1), HALTED);
            }
        }
    }
}
