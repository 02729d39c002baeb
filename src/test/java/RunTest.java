import java.util.Arrays;

// Promise 9: run makes steps, at most as many as asked, and answers the machine's status.
public final class RunTest {
    private static final int NN = NullnessFlow.NONNULL;
    private static final int MAYBE = NullnessFlow.NULLABLE;
    private static final int COMMITTED = NullnessFlow.COMMITTED;
    private static final int RUNNING = NullnessFlow.RUNNING;
    private static final int HALTED = NullnessFlow.HALTED;

    private static final Expect EXPECT = new Expect();

    public static void main(String[] args) {
        notReady();
        stepCounts();
        halting();
        plainSteps();
        tests();
        constructors();
        derefTraps();
        nonNullTraps();
        depthAndHeapTraps();
        trapOrder();
        changesNoProgram();
        EXPECT.end();
    }

    private static Subject checked(Subject x) {
        x.check();
        return x;
    }

    private static void notReady() {
        Subject x = new Subject().show(0);
        String before = x.picture();
        for (int steps : new int[] {Integer.MIN_VALUE, -1, 0, 1, 10000, Integer.MAX_VALUE}) {
            EXPECT.same("unchecked, run(" + steps + ")", x.run(steps), NullnessFlow.NOT_READY);
            EXPECT.same("unchecked, run(" + steps + ")", x.picture(), before);
        }
        x.check();
        x.run(1);
        x.show(0);
        EXPECT.same("after an edit", x.run(5), NullnessFlow.NOT_READY);
    }

    // A loop of seven instructions tells by its pc how many steps were made, modulo seven.
    private static void stepCounts() {
        int[][] runs = {{Integer.MIN_VALUE, 0}, {-1, 0}, {0, 0}, {1, 1}, {6, 6}, {7, 0}, {9999, 3}, {10000, 4},
            {10001, 4}, {10002, 4}, {20000, 4}, {Integer.MAX_VALUE, 4}};
        for (int[] run : runs) {
            Subject x = new Subject();
            for (int i = 0; i < 6; i++) {
                x.nil(i);
            }
            x.jump(0).check();
            EXPECT.same("run(" + run[0] + ")", x.run(run[0]), RUNNING);
            EXPECT.same("run(" + run[0] + "): pc", x.frame(0, 9), run[1]);
            EXPECT.same("run(3) more", x.run(3), RUNNING);
            EXPECT.same("run(3) more: pc", x.frame(0, 9), (run[1] + 3) % 7);
        }
    }

    private static void halting() {
        Subject empty = checked(new Subject());
        EXPECT.same("empty MAIN, run(0)", empty.run(0), RUNNING);
        EXPECT.same("empty MAIN, run(1)", empty.run(1), HALTED);
        Subject x = checked(new Subject().make(0, 1, 1).show(0).ret().show(0));
        EXPECT.same("run to before RET", x.run(3), RUNNING);
        String before = x.picture();
        EXPECT.same("RET", x.run(1), HALTED);
        EXPECT.same("frames once halted", x.info(19), 1);
        EXPECT.same("pc once halted", x.frame(0, 9), 2);
        EXPECT.same("local once halted", x.frame(0, 0), 0);
        EXPECT.same("only the status changes", x.picture(), before.replace(" 31 21 ", " 31 22 "));
        String halted = x.picture();
        EXPECT.same("once halted", x.run(10000), HALTED);
        EXPECT.same("once halted", x.picture(), halted);
        x.check();
        EXPECT.same("after check", x.run(0), RUNNING);
        Subject end = checked(new Subject().show(0));
        EXPECT.same("before END", end.run(1), RUNNING);
        EXPECT.same("at END", end.frame(0, 9), 1);
        EXPECT.same("END", end.run(1), HALTED);
        EXPECT.same("pc at END", end.frame(0, 9), 1);
    }

    private static void plainSteps() {
        Subject x = checked(new Subject().make(3, 1, 0).move(5, 3).nil(3).show(5).show(3));
        x.run(2);
        x.run(1);
        EXPECT.same("MOVE", x.frame(0, 5), 0);
        EXPECT.same("MOVE leaves its source", x.frame(0, 3), 0);
        x.run(1);
        EXPECT.same("NULL", x.frame(0, 3), -1);
        x.run(2);
        EXPECT.same("OUT", x.out(0), 0);
        EXPECT.same("OUT of null", x.out(1), -1);
        EXPECT.same("pc", x.frame(0, 9), 5);
        Subject put = checked(new Subject().make(0, 1, 7).make(1, 1, 7).put(0, 2, 1).get(4, 0, 2).get(5, 1, 2)
                .put(0, 2, 7).get(4, 0, 2));
        put.run(5);
        EXPECT.same("PUT", put.field(0, 2), 1);
        EXPECT.same("PUT sets one field", put.field(0, 1), -1);
        EXPECT.same("PUT sets one object", put.field(1, 2), -1);
        put.run(2);
        EXPECT.same("GET", put.frame(0, 4), 1);
        EXPECT.same("GET of null", put.frame(0, 5), -1);
        put.run(2);
        EXPECT.same("PUT of null", put.field(0, 2), -1);
        EXPECT.same("GET of null", put.frame(0, 4), -1);
        EXPECT.same("PUT and GET", put.run(1), HALTED);
    }

    private static void tests() {
        pcAfter("IFNULL of null", new Subject().ifNull(0, 3).nil(0).nil(0).nil(0), 1, 3);
        pcAfter("IFNULL of an object", new Subject().make(0, 1, 1).ifNull(0, 3).nil(0).nil(0), 3, 2);
        pcAfter("IFNONNULL of null", new Subject().ifNonNull(0, 3).nil(0).nil(0).nil(0), 1, 1);
        pcAfter("IFNONNULL of an object", new Subject().make(0, 1, 1).ifNonNull(0, 3).nil(0).nil(0), 3, 3);
        pcAfter("IFNULL of another local", new Subject().make(3, 1, 1).ifNull(3, 0).nil(0), 3, 2);
        pcAfter("IFNONNULL of another local", new Subject().make(3, 1, 1).ifNonNull(3, 3).nil(0), 3, 3);
        pcAfter("JMP", new Subject().jump(2).nil(0).nil(0), 1, 2);
        pcAfter("JMP above len", new Subject().jump(30).nil(0).nil(0), 1, 30);
        pcAfter("IFNULL above len", new Subject().ifNull(0, 32).nil(0), 1, 32);
        pcAfter("IFNONNULL above len", new Subject().make(0, 1, 1).ifNonNull(0, 29), 3, 29);
        Subject x = checked(new Subject().jump(32).nil(0));
        EXPECT.same("at a pc above len", x.run(2), HALTED);
        EXPECT.same("the pc above len stays", x.frame(0, 9), 32);
        Subject full = new Subject(8, 8, 2).in(1).jump(8).in(0).make(2, 1, 3).show(2);
        full.check();
        full.run(2);
        EXPECT.same("pc in a constructor above len", full.frame(1, 9), 8);
        EXPECT.same("return from a pc above len", full.run(10), HALTED);
        EXPECT.same("what it returned", full.out(0), 0);
    }

    private static void pcAfter(String what, Subject x, int steps, int due) {
        x.check();
        EXPECT.same(what, x.run(steps), RUNNING);
        EXPECT.same(what + ": pc", x.frame(0, 9), due);
    }

    private static void constructors() {
        Subject x = new Subject().make(2, 1, 3).make(4, 2, 2).show(4);
        x.in(2).make(5, 1, 0).put(0, 3, 5).ret().nil(0);
        x.param(1, MAYBE, NullnessFlow.UNCLASSIFIED);
        EXPECT.same("check", x.check(), NullnessFlow.OK);
        x.run(1);
        EXPECT.same("frames in a constructor", x.info(19), 2);
        EXPECT.same("the caller is at pc+1", x.frame(0, 9), 1);
        EXPECT.same("destination is set at the return", x.frame(0, 2), -1);
        x.run(1);
        EXPECT.same("frames after the return", x.info(19), 1);
        EXPECT.same("destination", x.frame(0, 2), 0);
        x.run(2);
        int[] due = {2, 1, -1, -1, -1, -1, -1, -1, 1, 0, 5, 2};
        for (int slot = 0; slot < due.length; slot++) {
            EXPECT.same("inner frame, slot " + slot, x.frame(2, slot), due[slot]);
        }
        EXPECT.same("middle frame's argument", x.frame(1, 1), 0);
        x.run(1);
        EXPECT.same("return to a constructor", x.frame(1, 5), 2);
        EXPECT.same("it goes to its own caller alone", x.frame(0, 5), -1);
        x.run(2);
        EXPECT.same("return by RET", x.frame(0, 4), 1);
        EXPECT.same("field set by a constructor", x.field(1, 3), 2);
        EXPECT.same("end", x.run(100), HALTED);
        EXPECT.same("output", x.out(0), 1);
        Subject own = checked(new Subject().make(0, 1, 0).show(0).in(1).nil(0).move(1, 0));
        EXPECT.same("a constructor that loses this still returns it", own.run(100), HALTED);
        EXPECT.same("its object", own.out(0), 0);
    }

    private static void traps(String what, Subject x, int before, int trap) {
        x.check();
        EXPECT.same(what + ": before", x.run(before), RUNNING);
        String picture = x.picture();
        String trapped = picture.replaceFirst(" (3[12]) 21 ", " $1 " + trap + " ");
        EXPECT.same(what, x.run(1), trap);
        EXPECT.same(what + ": status", x.info(16), trap);
        EXPECT.same(what + ": nothing done", x.picture(), trapped);
        EXPECT.same(what + ": stays", x.run(10000), trap);
        EXPECT.same(what + ": stays, nothing done", x.picture(), trapped);
        x.check();
        EXPECT.same(what + ": until check", x.info(16), RUNNING);
        x.run(before + 1);
        x.declareField(0, x.info(0));
        EXPECT.same(what + ": until an edit", x.run(1), NullnessFlow.NOT_READY);
    }

    private static void derefTraps() {
        traps("GET of null", new Subject().get(0, 1, 0), 0, NullnessFlow.TRAP_DEREF);
        traps("PUT into null", new Subject().make(0, 1, 1).put(1, 0, 0), 2, NullnessFlow.TRAP_DEREF);
        traps("GET in a constructor", new Subject().make(0, 1, 1).in(1).get(2, 1, 0), 1, NullnessFlow.TRAP_DEREF);
    }

    private static void nonNullTraps() {
        traps("GET of a NONNULL field not put", new Subject().nonNullField(3).make(0, 1, 1).get(1, 0, 3), 2,
                NullnessFlow.TRAP_NONNULL);
        traps("PUT of null into a NONNULL field", new Subject().nonNullField(3).make(0, 1, 1).put(0, 3, 1), 2,
                NullnessFlow.TRAP_NONNULL);
        traps("null to a NONNULL parameter", new Subject().param(3, NN, COMMITTED).make(0, 3, 1), 0,
                NullnessFlow.TRAP_NONNULL);
        Subject others = checked(new Subject().nonNullField(3).param(3, NN, COMMITTED)
                .make(0, 1, 1).make(2, 3, 0).get(1, 0, 2).put(0, 2, 1).put(0, 3, 0).get(1, 0, 3));
        EXPECT.same("no trap where all is as declared", others.run(100), HALTED);
        EXPECT.same("the NONNULL field", others.field(0, 3), 0);
    }

    private static void depthAndHeapTraps() {
        traps("no frame left", new Subject(8, 8, 1).make(0, 1, 0), 0, NullnessFlow.TRAP_DEPTH);
        traps("no frame left in a constructor", new Subject(8, 8, 3).make(0, 1, 0).in(1).make(2, 1, 1), 2,
                NullnessFlow.TRAP_DEPTH);
        traps("no object left", new Subject(8, 8, 2).make(0, 1, 0).jump(0), 24, NullnessFlow.TRAP_HEAP);
    }

    private static void trapOrder() {
        traps("DEREF before NONNULL", new Subject().nonNullField(0).put(0, 0, 1), 0, NullnessFlow.TRAP_DEREF);
        traps("NONNULL before DEPTH", new Subject(8, 8, 1).param(1, NN, COMMITTED).make(0, 1, 0), 0,
                NullnessFlow.TRAP_NONNULL);
        Subject heapFull = new Subject(8, 8, 2).make(0, 1, 0).ifNonNull(0, 0).in(1).show(0);
        traps("HEAP once the frames are free", heapFull, 32, NullnessFlow.TRAP_HEAP);
        // Seven objects are made and given up, the eighth's constructor makes one more at the greatest depth.
        Subject both = new Subject(16, 8, 2);
        for (int i = 0; i < 7; i++) {
            both.make(i % 3, 1, 7);
        }
        both.make(3, 2, 7).in(2).make(2, 1, 7);
        traps("DEPTH before HEAP", both, 15, NullnessFlow.TRAP_DEPTH);
        Subject nonNull = new Subject(16, 8, 2).param(2, NN, COMMITTED);
        for (int i = 0; i < 8; i++) {
            nonNull.make(i % 3, 1, 7);
        }
        traps("NONNULL before HEAP", nonNull.make(3, 2, 7), 16, NullnessFlow.TRAP_NONNULL);
    }

    private static void changesNoProgram() {
        for (int scene = 0; scene < Scenes.COUNT; scene++) {
            Subject x = Scenes.scene(scene);
            int checker = x.info(15);
            int where = x.errorWhere();
            String before = Arrays.toString(Scenes.program(x));
            int state = x.state(1, 1, 2);
            x.run(100);
            EXPECT.same(Scenes.name(scene) + ": checker", x.info(15), checker);
            EXPECT.same(Scenes.name(scene) + ": errorWhere", x.errorWhere(), where);
            EXPECT.same(Scenes.name(scene) + ": state", x.state(1, 1, 2), state);
            EXPECT.same(Scenes.name(scene) + ": program", Arrays.toString(Scenes.program(x)), before);
        }
    }
}
