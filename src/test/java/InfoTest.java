// Promise 10: info answers each number of the list, and NONE for any other.
public final class InfoTest {
    private static final Expect EXPECT = new Expect();

    public static void main(String[] args) {
        eachKnown();
        others();
        EXPECT.end();
    }

    // Each answer that can differ from its neighbours' does, so that none stands in for another.
    private static void eachKnown() {
        Subject x = new Subject(16, 16, 8).nonNullField(1).nonNullField(3);
        x.param(1, 0, 2).param(2, 1, 1).param(3, 0, 0);
        x.in(1).put(0, 1, 0).put(0, 3, 0).make(2, 2, 0).show(2);
        x.in(2).put(0, 1, 0).put(0, 3, 0);
        x.in(3).show(0).put(0, 1, 0).put(0, 3, 0).make(4, 1, 0).show(4);
        x.in(0).show(0).show(0).ret();
        int[] written = {1, 0, 1, 0, 0, 1, 0, 2, 1, 0, 3, 4, 2, 5, 0, 30, 20, 0, 0, 0};
        same("written", x, written);
        x.in(2);
        x.check();
        same("checked", x, 1, 0, 1, 0, 0, 1, 0, 2, 1, 0, 3, 4, 2, 5, 2, 31, 21, 0, 0, 1);
        x.run(2);
        same("running", x, 1, 0, 1, 0, 0, 1, 0, 2, 1, 0, 3, 4, 2, 5, 2, 31, 21, 0, 2, 1);
        x.run(1);
        same("halted", x, 1, 0, 1, 0, 0, 1, 0, 2, 1, 0, 3, 4, 2, 5, 2, 31, 22, 0, 2, 1);
        Subject y = Scenes.scene(2);
        same("within constructors", y, 1, 0, 1, 1, 1, 0, 1, 0, 1, 0, 4, 2, 2, 1, 0, 31, 21, 2, 1, 3);
        Subject z = Scenes.scene(4);
        same("trapped", z, 1, 0, 1, 1, 1, 0, 1, 0, 1, 0, 5, 2, 2, 1, 2, 32, 23, 2, 2, 1);
    }

    private static void same(String what, Subject x, int... due) {
        String before = x.picture();
        for (int k = 0; k < due.length; k++) {
            EXPECT.same(what + ": info(" + k + ")", x.info(k), due[k]);
        }
        EXPECT.same(what, x.picture(), before);
    }

    private static void others() {
        for (int scene = 0; scene < Scenes.COUNT; scene++) {
            Subject x = Scenes.scene(scene);
            String before = x.picture();
            for (int k : new int[] {Integer.MIN_VALUE, -20, -2, -1, 20, 21, 64, Integer.MAX_VALUE}) {
                EXPECT.same(Scenes.name(scene) + ": info(" + k + ")", x.info(k), NullnessFlow.NONE);
            }
            EXPECT.same(Scenes.name(scene), x.picture(), before);
        }
    }
}
