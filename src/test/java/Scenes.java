// States of the object that a call may meet; a call that must change nothing is tried in each of them.
final class Scenes {
    static final int COUNT = 5;

    private Scenes() { }

    static Subject scene(int number) {
        Subject x = new Subject(16, 16, 4).nonNullField(1).param(2, NullnessFlow.NONNULL, NullnessFlow.FREE);
        x.in(1).make(2, 2, 0).put(0, 1, 2);
        x.in(2).put(0, 1, 1).put(0, 0, 1);
        x.in(3).put(0, 1, 0);
        x.in(0).show(0).make(4, 1, 5).get(6, 4, 1).show(6);
        switch (number) {
            case 0 -> { }
            case 1 -> x.check();
            case 2 -> {
                x.check();
                x.run(5);
            }
            case 3 -> {
                x.check();
                x.run(100);
            }
            default -> {
                x.get(7, 7, 0).in(2);
                x.check();
                x.run(100);
            }
        }
        return x;
    }

    static String name(int number) {
        String[] names = {"unchecked", "checked", "running within constructors", "halted", "rejected and trapped"};
        return names[number];
    }

    // The scenes must be what their names say, or the tests that use them would show little.
    static void asNamed(Expect expect) {
        int[] checker = {30, 31, 31, 31, 32};
        int[] machine = {20, 21, 21, 22, 23};
        int[] objects = {0, 0, 2, 2, 2};
        int[] outputs = {0, 0, 1, 2, 2};
        int[] frames = {0, 1, 3, 1, 1};
        for (int i = 0; i < COUNT; i++) {
            Subject x = scene(i);
            expect.same(name(i) + ": checker", x.info(15), checker[i]);
            expect.same(name(i) + ": machine", x.info(16), machine[i]);
            expect.same(name(i) + ": objects", x.info(17), objects[i]);
            expect.same(name(i) + ": outputs", x.info(18), outputs[i]);
            expect.same(name(i) + ": frames", x.info(19), frames[i]);
        }
    }

    // What an edit must leave: all declarations and code as before but for what it edits, nothing checked, no machine.
    static void wasReset(Expect expect, String what, Subject x) {
        expect.same(what + ": checker", x.info(15), NullnessFlow.UNCHECKED);
        expect.same(what + ": machine", x.info(16), NullnessFlow.NOT_READY);
        for (int k = 17; k <= 19; k++) {
            expect.same(what + ": info(" + k + ")", x.info(k), 0);
        }
        expect.same(what + ": errorWhere", x.errorWhere(), -1);
        expect.same(what + ": state", x.state(0, 0, 0), NullnessFlow.NONE);
        expect.same(what + ": frame", x.frame(0, 0), NullnessFlow.NONE);
        expect.same(what + ": field", x.field(0, 0), NullnessFlow.NONE);
        expect.same(what + ": out", x.out(0), NullnessFlow.NONE);
        expect.same(what + ": run", x.run(10), NullnessFlow.NOT_READY);
    }

    // Declarations, code and the selected block as numbers, to see what an edit leaves alone.
    static int[] program(Subject x) {
        int[] all = new int[15 + 4 * 32 * 4];
        for (int k = 0; k <= 14; k++) {
            all[k] = x.info(k);
        }
        for (int block = 0; block < 4; block++) {
            for (int pc = 0; pc < 32; pc++) {
                for (int part = 0; part < 4; part++) {
                    all[codeCell(block, pc) + part] = x.code(block, pc, part);
                }
            }
        }
        return all;
    }

    static int codeCell(int block, int pc) {
        return 15 + (block * 32 + pc) * 4;
    }
}
