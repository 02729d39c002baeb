// Promise 14: out answers the output values, oldest first, and NONE where there is none; at most 16 are held.
public final class OutTest {
    private static final Expect EXPECT = new Expect();

    public static void main(String[] args) {
        oldestFirst();
        atMostSixteen();
        none();
        EXPECT.end();
    }

    private static void oldestFirst() {
        Subject x = new Subject().make(0, 1, 7).make(1, 1, 7).show(1).show(7).show(0).show(1);
        x.check();
        x.run(100);
        int[] due = {1, -1, 0, 1};
        for (int i = 0; i < due.length; i++) {
            EXPECT.same("out(" + i + ")", x.out(i), due[i]);
        }
        EXPECT.same("out(4)", x.out(4), NullnessFlow.NONE);
        x.check();
        EXPECT.same("after check", x.out(0), NullnessFlow.NONE);
    }

    private static void atMostSixteen() {
        Subject x = new Subject(32, 32, 2).make(0, 1, 7).show(0).jump(0);
        x.check();
        EXPECT.same("OUT goes on when the list is full", x.run(10000), NullnessFlow.TRAP_HEAP);
        EXPECT.same("objects", x.info(17), 32);
        EXPECT.same("outputs", x.info(18), 16);
        for (int i = 0; i < 16; i++) {
            EXPECT.same("out(" + i + ")", x.out(i), i);
        }
        EXPECT.same("out(16)", x.out(16), NullnessFlow.NONE);
    }

    private static void none() {
        for (int scene = 0; scene < Scenes.COUNT; scene++) {
            Subject x = Scenes.scene(scene);
            String before = x.picture();
            for (int i : new int[] {Integer.MIN_VALUE, -1, x.info(18), x.info(18) + 1, 15, 16, Integer.MAX_VALUE}) {
                EXPECT.same(Scenes.name(scene) + ": out(" + i + ")", x.out(i), NullnessFlow.NONE);
            }
            EXPECT.same(Scenes.name(scene), x.picture(), before);
        }
    }
}
