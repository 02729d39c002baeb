// Promise 12: frame answers the slots of each frame from the bottom, and NONE where there is none.
public final class FrameTest {
    private static final Expect EXPECT = new Expect();

    public static void main(String[] args) {
        eachSlot();
        noSuchFrame();
        poppedFrames();
        noSuchSlot();
        noFrames();
        changesNothing();
        EXPECT.end();
    }

    private static void none(Subject x, int fr, int slot) {
        Scenes.answerNone(EXPECT, "frame(" + fr + ", " + slot + ")", x, y -> y.frame(fr, slot));
    }

    // Eight frames, MAIN's and seven of constructor 1, each with its own object and pc 1 but for the top one.
    private static Subject deep() {
        Subject x = new Subject().make(0, 1, 0).in(1).make(2, 1, 0);
        x.check();
        x.run(100);
        return x;
    }

    private static void eachSlot() {
        EXPECT.sentence("Frame fr (0 = bottom, MAIN), slot: 0..7 local value, 8 block, 9 pc, 10 destination local,"
                + " 11 own object.");
        Subject x = new Subject().make(6, 3, 2).make(5, 2, 6);
        x.in(2).move(7, 0).move(4, 1).make(3, 1, 4).show(0);
        x.in(1).move(2, 1).show(0).show(0);
        x.check();
        x.run(8);
        slots(x, 0, -1, -1, -1, -1, -1, -1, 0, -1, 0, 2, -1, -1);
        slots(x, 1, 1, 0, -1, -1, 0, -1, -1, 1, 2, 3, 5, 1);
        slots(x, 2, 2, 0, 0, -1, -1, -1, -1, -1, 1, 2, 3, 2);
        x.run(2);
        slots(x, 1, 1, 0, -1, 2, 0, -1, -1, 1, 2, 3, 5, 1);
        Subject y = deep();
        for (int fr = 1; fr < 8; fr++) {
            int argument = fr == 1 ? -1 : fr - 2;
            slots(y, fr, fr - 1, argument, -1, -1, -1, -1, -1, -1, 1, fr == 7 ? 0 : 1, fr == 1 ? 0 : 2, fr - 1);
        }
    }

    private static void slots(Subject x, int fr, int... due) {
        for (int slot = 0; slot < 12; slot++) {
            EXPECT.same("frame(" + fr + ", " + slot + ")", x.frame(fr, slot), due[slot]);
        }
    }

    private static void noSuchFrame() {
        EXPECT.sentence("Answers NONE unless fr is in 0..frames-1");
        Subject x = new Subject().make(0, 1, 0).in(1).make(2, 1, 0);
        x.check();
        for (int frames = 1; frames <= 8; frames++) {
            EXPECT.same("frames", x.info(19), frames);
            EXPECT.same("the top one", x.frame(frames - 1, 9), 0);
            for (int fr : Beyond.range(0, frames - 1)) {
                none(x, fr, 0);
                none(x, fr, 11);
                none(x, fr, 12);
            }
            x.run(1);
        }
    }

    private static void poppedFrames() {
        Subject x = new Subject().make(0, 1, 0).in(1).make(2, 2, 0);
        x.check();
        x.run(2);
        EXPECT.same("three frames", x.frame(2, 8), 2);
        x.run(1);
        none(x, 2, 8);
        EXPECT.same("two frames", x.frame(1, 8), 1);
        x.run(1);
        none(x, 1, 8);
        EXPECT.same("one frame", x.frame(0, 8), 0);
        x.run(10);
        EXPECT.same("one frame once halted", x.frame(0, 9), 1);
        none(x, 1, 8);
    }

    private static void noSuchSlot() {
        EXPECT.sentence("and slot is in 0..11");
        for (Subject x : new Subject[] {deep(), Scenes.scene(1), Scenes.scene(3)}) {
            for (int fr = 0; fr < x.info(19); fr++) {
                for (int slot : Beyond.range(0, 11)) {
                    none(x, fr, slot);
                }
            }
        }
    }

    private static void noFrames() {
        EXPECT.sentence("so with no frames (machine NOT_READY) every call answers NONE.");
        for (Subject x : new Subject[] {Scenes.scene(0), Scenes.scene(5), edited(deep()), edited(Scenes.scene(6))}) {
            EXPECT.same("machine", x.info(16), NullnessFlow.NOT_READY);
            for (int fr = -1; fr <= 8; fr++) {
                for (int slot = -1; slot <= 12; slot++) {
                    none(x, fr, slot);
                }
            }
            for (int odd : Beyond.anything()) {
                none(x, odd, 0);
                none(x, 0, odd);
            }
        }
    }

    private static Subject edited(Subject x) {
        x.declareField(0, NullnessFlow.NULLABLE);
        return x;
    }

    private static void changesNothing() {
        EXPECT.sentence("Changes nothing.");
        for (int slot = 0; slot < 12; slot++) {
            int s = slot;
            Scenes.leaveAll(EXPECT, "frame(0, " + s + ")", x -> x.frame(0, s));
        }
    }
}
