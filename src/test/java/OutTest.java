// Promise 14: out answers the output values, oldest first, and NONE where there is none; at most 16 are held.
public final class OutTest {
    private static final Expect EXPECT = new Expect();

    public static void main(String[] args) {
        oldestFirst();
        sixteen();
        noSuchOutput();
        noOutputs();
        changesNothing();
        EXPECT.end();
    }

    private static void none(Subject x, int i) {
        Scenes.answerNone(EXPECT, "out(" + i + ")", x, y -> y.out(i));
    }

    // Each object is shown as it is made, and one more than there is room for.
    private static Subject seventeen() {
        Subject x = new Subject(32, 17, 2).make(0, 1, 7).show(0).jump(0);
        x.check();
        return x;
    }

    private static void oldestFirst() {
        EXPECT.sentence("Output value number i (oldest first): an object number, or -1 for null.");
        Subject x = new Subject().make(0, 1, 7).make(1, 1, 7).show(1).show(7).show(0).show(1);
        x.check();
        x.run(100);
        int[] due = {1, -1, 0, 1};
        for (int i = 0; i < due.length; i++) {
            EXPECT.same("out(" + i + ")", x.out(i), due[i]);
        }
    }

    private static void sixteen() {
        Subject x = seventeen();
        x.run(10000);
        EXPECT.same("objects", x.info(17), 17);
        EXPECT.same("outputs", x.info(18), 16);
        for (int i = 0; i < 16; i++) {
            EXPECT.same("out(" + i + ")", x.out(i), i);
        }
        none(x, 16);
    }

    private static void noSuchOutput() {
        EXPECT.sentence("Answers NONE unless i is in 0..outputs-1.");
        Subject x = seventeen();
        for (int shown = 0; shown <= 17; shown++) {
            int outputs = Math.min(shown, 16);
            EXPECT.same("outputs", x.info(18), outputs);
            if (outputs > 0) {
                EXPECT.same("the last output", x.out(outputs - 1), outputs - 1);
            }
            for (int i : Beyond.range(0, outputs - 1)) {
                none(x, i);
            }
            x.run(4);
        }
        for (int scene = 0; scene < Scenes.COUNT; scene++) {
            Subject y = Scenes.scene(scene);
            for (int i : Beyond.range(0, y.info(18) - 1)) {
                none(y, i);
            }
        }
    }

    // What an earlier run put out is not there after a check or an edit.
    private static void noOutputs() {
        Subject x = seventeen();
        x.run(10000);
        x.check();
        for (int i = -1; i <= 16; i++) {
            none(x, i);
        }
        x.run(10000);
        x.declareParam(1, NullnessFlow.NULLABLE, NullnessFlow.COMMITTED);
        for (int i = -1; i <= 16; i++) {
            none(x, i);
        }
    }

    private static void changesNothing() {
        EXPECT.sentence("Changes nothing.");
        Scenes.leaveAll(EXPECT, "out(0)", x -> x.out(0));
    }
}
