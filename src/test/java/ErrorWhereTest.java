// Promise 7: errorWhere answers the reported place while the checker is REJECTED, else -1. CheckTest tells most places.
public final class ErrorWhereTest {
    private static final Expect EXPECT = new Expect();

    public static void main(String[] args) {
        int[] due = {-1, -1, -1, -1, 4};
        for (int scene = 0; scene < Scenes.COUNT; scene++) {
            Subject x = Scenes.scene(scene);
            String before = x.picture();
            EXPECT.same(Scenes.name(scene), x.errorWhere(), due[scene]);
            EXPECT.same(Scenes.name(scene) + ": picture", x.picture(), before);
        }
        everyPlace();
        editsAndRuns();
        EXPECT.end();
    }

    private static void everyPlace() {
        for (int block = 0; block < 4; block++) {
            for (int point = 0; point < 32; point++) {
                Subject x = new Subject().in(block);
                for (int i = 0; i < point; i++) {
                    x.show(i % 8);
                }
                x.get(2, 3, 0).check();
                EXPECT.same("block " + block + ", point " + point, x.errorWhere(), 64 * block + point);
            }
        }
    }

    private static void editsAndRuns() {
        Subject x = new Subject().in(2).nil(0);
        EXPECT.same("before check", x.errorWhere(), -1);
        x.check();
        EXPECT.same("after check", x.errorWhere(), 128);
        x.run(10);
        x.select(1);
        x.select(9);
        x.declareField(9, 9);
        EXPECT.same("after a run, a select and refused calls", x.errorWhere(), 128);
        x.declareField(0, 1);
        EXPECT.same("after an edit", x.errorWhere(), -1);
        x.check();
        EXPECT.same("after check again", x.errorWhere(), 128);
        x.show(0);
        EXPECT.same("after emit", x.errorWhere(), -1);
    }
}
