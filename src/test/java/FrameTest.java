// Promise 12: frame answers the slots of each frame from the bottom, and NONE where there is none.
public final class FrameTest {
    private static final Expect EXPECT = new Expect();

    public static void main(String[] args) {
        noFrames();
        eachSlot();
        none();
        depth();
        EXPECT.end();
    }

    private static void noFrames() {
        Subject x = new Subject().show(0);
        for (int slot = -1; slot <= 12; slot++) {
            EXPECT.same("fresh, slot " + slot, x.frame(0, slot), NullnessFlow.NONE);
        }
        x.check();
        EXPECT.same("checked", x.frame(0, 0), -1);
        x.show(0);
        EXPECT.same("edited", x.frame(0, 0), NullnessFlow.NONE);
    }

    private static void eachSlot() {
        Subject x = new Subject().make(6, 3, 2).make(5, 2, 6);
        x.in(2).move(7, 0).move(4, 1).make(3, 1, 4).show(0);
        x.in(1).move(2, 1).show(0).show(0);
        x.check();
        x.run(8);
        slots(x, 0, -1, -1, -1, -1, -1, -1, 0, -1, 0, 2, -1, -1);
        slots(x, 1, 1, 0, -1, -1, 0, -1, -1, 1, 2, 3, 5, 1);
        slots(x, 2, 2, 0, 0, -1, -1, -1, -1, -1, 1, 2, 3, 2);
        EXPECT.same("beyond the top", x.frame(3, 8), NullnessFlow.NONE);
        x.run(2);
        EXPECT.same("popped", x.frame(2, 8), NullnessFlow.NONE);
        slots(x, 1, 1, 0, -1, 2, 0, -1, -1, 1, 2, 3, 5, 1);
    }

    private static void slots(Subject x, int fr, int... due) {
        String before = x.picture();
        for (int slot = 0; slot < 12; slot++) {
            EXPECT.same("frame(" + fr + ", " + slot + ")", x.frame(fr, slot), due[slot]);
        }
        EXPECT.same("picture", x.picture(), before);
    }

    private static void none() {
        Subject x = Scenes.scene(2);
        String before = x.picture();
        for (int fr : new int[] {Integer.MIN_VALUE, -1, 3, 4, 8, Integer.MAX_VALUE}) {
            EXPECT.same("frame(" + fr + ", 0)", x.frame(fr, 0), NullnessFlow.NONE);
        }
        for (int slot : new int[] {Integer.MIN_VALUE, -1, 12, 13, Integer.MAX_VALUE}) {
            EXPECT.same("frame(1, " + slot + ")", x.frame(1, slot), NullnessFlow.NONE);
        }
        EXPECT.same("picture", x.picture(), before);
    }

    private static void depth() {
        Subject x = new Subject().make(0, 1, 0).in(1).make(2, 1, 0);
        x.check();
        x.run(100);
        for (int fr = 1; fr < 8; fr++) {
            EXPECT.same("own object of frame " + fr, x.frame(fr, 11), fr - 1);
            EXPECT.same("block of frame " + fr, x.frame(fr, 8), 1);
            EXPECT.same("pc of frame " + fr, x.frame(fr, 9), fr == 7 ? 0 : 1);
            EXPECT.same("destination of frame " + fr, x.frame(fr, 10), fr == 1 ? 0 : 2);
        }
        EXPECT.same("the ninth frame", x.frame(8, 0), NullnessFlow.NONE);
    }
}
