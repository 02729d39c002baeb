import java.util.function.Predicate;
import java.util.function.ToIntFunction;

// States of the object that a call may meet; a call that must change nothing is tried in each of them.
final class Scenes {
    static final int COUNT = 7;
    // What all scenes were made with.
    static final int CODE_CAP = 16;

    private static final String[] NAMES = {"unchecked", "checked", "running within constructors", "halted",
        "rejected and trapped", "new", "full"};
    private static final int[] CHECKER = {30, 31, 31, 31, 32, 30, 31};
    private static final int[] MACHINE = {20, 21, 21, 22, 23, 20, 25};
    private static final int[] OBJECTS = {0, 0, 2, 2, 2, 0, 8};
    private static final int[] OUTPUTS = {0, 0, 1, 2, 2, 0, 16};
    private static final int[] FRAMES = {0, 1, 3, 1, 1, 0, 4};

    private Scenes() { }

    static String name(int number) {
        return NAMES[number];
    }

    static Subject scene(int number) {
        return switch (number) {
            case 0 -> written();
            case 1 -> run(written(), 0);
            case 2 -> run(written(), 5);
            case 3 -> run(written(), 100);
            case 4 -> run(written().get(7, 7, 0).in(2), 100);
            case 5 -> new Subject(CODE_CAP, 16, 4);
            default -> run(full(), 200);
        };
    }

    private static Subject run(Subject x, int steps) {
        x.check();
        x.run(steps);
        return x;
    }

    private static Subject written() {
        Subject x = new Subject(CODE_CAP, 16, 4).nonNullField(1).param(2, NullnessFlow.NONNULL, NullnessFlow.FREE);
        x.in(1).make(2, 2, 0).put(0, 1, 2);
        x.in(2).put(0, 1, 1).put(0, 0, 1);
        x.in(3).put(0, 1, 0);
        return x.in(0).show(0).make(4, 1, 5).get(6, 4, 1).show(6);
    }

    // Once run, the blocks but the selected one, the heap, the stack and the output are all full at once.
    private static Subject full() {
        Subject x = new Subject(CODE_CAP, 8, 4).param(1, NullnessFlow.NULLABLE, NullnessFlow.UNCLASSIFIED);
        for (int d = 0; d < 5; d++) {
            x.make(d, 2, 7);
        }
        x.make(5, 1, 7).pad(10);
        x.in(1).show(0).make(2, 1, 0).pad(14);
        x.in(2).show(0).show(0).show(0).pad(13);
        return x.in(3);
    }

    // No declaration is as in a new object but for one init, and there is code in all blocks; not checked.
    static Subject allDeclared() {
        Subject x = new Subject().make(0, 3, 7).make(1, 2, 0).show(1);
        for (int f = 0; f < 4; f++) {
            x.nonNullField(f);
        }
        x.param(1, NullnessFlow.NONNULL, NullnessFlow.FREE);
        x.param(2, NullnessFlow.NONNULL, NullnessFlow.UNCLASSIFIED);
        for (int k = 1; k <= 3; k++) {
            x.in(k).put(0, 0, 0).put(0, 1, 0).put(0, 2, 0).put(0, 3, 0).pad(k);
        }
        return x;
    }

    // The scenes must be what their names say, or the tests that use them would show little.
    static void asNamed(Expect expect) {
        for (int i = 0; i < COUNT; i++) {
            Subject x = scene(i);
            expect.same(name(i) + ": checker", x.info(15), CHECKER[i]);
            expect.same(name(i) + ": machine", x.info(16), MACHINE[i]);
            expect.same(name(i) + ": objects", x.info(17), OBJECTS[i]);
            expect.same(name(i) + ": outputs", x.info(18), OUTPUTS[i]);
            expect.same(name(i) + ": frames", x.info(19), FRAMES[i]);
        }
    }

    // In every scene the call answers false and changes nothing.
    static void refuse(Expect expect, String what, Predicate<Subject> call) {
        for (int i = 0; i < COUNT; i++) {
            refuse(expect, name(i) + ", " + what, scene(i), call);
        }
    }

    static void refuse(Expect expect, String what, Subject x, Predicate<Subject> call) {
        String before = x.picture();
        expect.no(what, call.test(x));
        expect.same(what + ": picture", x.picture(), before);
    }

    // In every scene the query answers NONE and changes nothing.
    static void answerNone(Expect expect, String what, ToIntFunction<Subject> query) {
        for (int i = 0; i < COUNT; i++) {
            answerNone(expect, name(i) + ", " + what, scene(i), query);
        }
    }

    static void answerNone(Expect expect, String what, Subject x, ToIntFunction<Subject> query) {
        String before = x.picture();
        expect.same(what, query.applyAsInt(x), NullnessFlow.NONE);
        expect.same(what + ": picture", x.picture(), before);
    }

    // In every scene the query answers the same when it is asked again, and changes nothing.
    static void leaveAll(Expect expect, String what, ToIntFunction<Subject> query) {
        for (int i = 0; i < COUNT; i++) {
            Subject x = scene(i);
            String before = x.picture();
            int first = query.applyAsInt(x);
            expect.same(name(i) + ", " + what + " again", query.applyAsInt(x), first);
            expect.same(name(i) + ", " + what + ": picture", x.picture(), before);
        }
    }

    // What every edit must leave: nothing checked and no machine.
    static void wasReset(Expect expect, String what, Subject x) {
        expect.same(what + ": checker", x.info(15), NullnessFlow.UNCHECKED);
        expect.same(what + ": machine", x.info(16), NullnessFlow.NOT_READY);
        for (int k = 17; k <= 19; k++) {
            expect.same(what + ": info(" + k + ")", x.info(k), 0);
        }
        expect.same(what + ": errorWhere", x.errorWhere(), -1);
        expect.same(what + ": state", x.state(0, 0, 0), NullnessFlow.NONE);
        expect.same(what + ": frame", x.frame(0, 0), NullnessFlow.NONE);
        expect.same(what + ": field", x.field(0, 0), NullnessFlow.NONE);
        expect.same(what + ": out", x.out(0), NullnessFlow.NONE);
        expect.same(what + ": run", x.run(10), NullnessFlow.NOT_READY);
    }

    // Declarations, code and the selected block as numbers, to see what a call leaves alone.
    static int[] program(Subject x) {
        int[] all = new int[15 + 4 * 32 * 4];
        for (int k = 0; k <= 14; k++) {
            all[k] = x.info(k);
        }
        for (int block = 0; block < 4; block++) {
            for (int pc = 0; pc < 32; pc++) {
                for (int part = 0; part < 4; part++) {
                    all[codeCell(block, pc) + part] = x.code(block, pc, part);
                }
            }
        }
        return all;
    }

    static int codeCell(int block, int pc) {
        return 15 + (block * 32 + pc) * 4;
    }
}
