// Promise 4: select chooses the block that emit appends to, and changes nothing else.
public final class SelectTest {
    private static final Expect EXPECT = new Expect();

    public static void main(String[] args) {
        for (int scene = 0; scene < Scenes.COUNT; scene++) {
            taken(scene);
            refused(scene);
        }
        appendsThere();
        EXPECT.end();
    }

    private static void taken(int scene) {
        Subject x = Scenes.scene(scene);
        int first = x.info(14);
        String before = x.picture();
        for (int block = 3; block >= 0; block--) {
            String what = Scenes.name(scene) + ", select(" + block + ")";
            EXPECT.yes(what, x.select(block));
            EXPECT.same(what + ": selected", x.info(14), block);
            // Selecting the first block again must bring back the whole picture.
            x.select(first);
            EXPECT.same(what, x.picture(), before);
        }
    }

    private static void refused(int scene) {
        Subject x = Scenes.scene(scene);
        x.select(2);
        String before = x.picture();
        for (int block : new int[] {-1, 4, 5, Integer.MIN_VALUE, Integer.MAX_VALUE}) {
            String what = Scenes.name(scene) + ", select(" + block + ")";
            EXPECT.no(what, x.select(block));
            EXPECT.same(what, x.picture(), before);
        }
    }

    private static void appendsThere() {
        Subject x = new Subject();
        for (int block = 3; block >= 0; block--) {
            x.select(block);
            for (int i = 0; i <= block; i++) {
                x.nil(block);
            }
        }
        for (int block = 0; block < 4; block++) {
            EXPECT.same("len of block " + block, x.info(10 + block), block + 1);
            EXPECT.same("code of block " + block, x.code(block, block, 1), block);
        }
    }
}
