// Promise 4: select chooses the block that emit appends to, and changes nothing else.
public final class SelectTest {
    private static final Expect EXPECT = new Expect();

    public static void main(String[] args) {
        selects();
        noSuchBlock();
        nothingElse();
        EXPECT.end();
    }

    private static void selects() {
        EXPECT.sentence("Selects the block that emit appends to and answers true.");
        Subject x = new Subject();
        for (int block = 3; block >= 0; block--) {
            EXPECT.yes("select(" + block + ")", x.select(block));
            EXPECT.yes("select(" + block + ") again", x.select(block));
            EXPECT.same("selected", x.info(14), block);
            for (int i = 0; i <= block; i++) {
                x.nil(block);
            }
        }
        for (int block = 0; block < 4; block++) {
            EXPECT.same("len of block " + block, x.info(10 + block), block + 1);
            EXPECT.same("code of block " + block, x.code(block, block, 1), block);
        }
    }

    private static void noSuchBlock() {
        EXPECT.sentence("Refused (false) unless block is in 0..3.");
        for (int block : Beyond.range(0, 3)) {
            for (int selected = 0; selected < 4; selected++) {
                Subject x = new Subject().nil(1).in(selected);
                Scenes.refuse(EXPECT, "select(" + block + ")", x, y -> y.select(block));
                x.nil(2);
                EXPECT.same("emit goes where it went", x.info(10 + selected), selected == 0 ? 2 : 1);
            }
            Scenes.refuse(EXPECT, "select(" + block + ")", x -> x.select(block));
        }
    }

    private static void nothingElse() {
        EXPECT.sentence("Changes nothing else: checker status, machine, code and declarations all stay as they were.");
        for (int scene = 0; scene < Scenes.COUNT; scene++) {
            for (int block = 0; block < 4; block++) {
                Subject x = Scenes.scene(scene);
                String before = x.pictureBut(14);
                x.select(block);
                EXPECT.same(Scenes.name(scene) + ", select(" + block + ")", x.pictureBut(14), before);
            }
        }
        Subject full = new Subject(8, 8, 1).in(2).pad(8);
        full.check();
        EXPECT.yes("select of a full block", full.select(2));
        EXPECT.same("checker", full.info(15), NullnessFlow.ACCEPTED);
    }
}
