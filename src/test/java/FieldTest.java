// Promise 13: field answers what a field of an object holds, and NONE where there is no such object or field.
public final class FieldTest {
    private static final Expect EXPECT = new Expect();

    public static void main(String[] args) {
        held();
        none();
        newObjectsAreEmpty();
        EXPECT.end();
    }

    private static void held() {
        Subject x = new Subject().make(0, 1, 7).make(1, 1, 7).make(2, 1, 7);
        x.put(0, 0, 1).put(0, 3, 2).put(1, 1, 0).put(1, 2, 1).put(2, 0, 2).put(2, 1, 1).put(2, 2, 0).put(2, 1, 7);
        x.check();
        x.run(100);
        int[][] due = {{1, -1, -1, 2}, {-1, 0, 1, -1}, {2, -1, 0, -1}};
        String before = x.picture();
        for (int o = 0; o < 3; o++) {
            for (int f = 0; f < 4; f++) {
                EXPECT.same("field(" + o + ", " + f + ")", x.field(o, f), due[o][f]);
            }
        }
        EXPECT.same("picture", x.picture(), before);
        x.check();
        EXPECT.same("after check", x.field(0, 0), NullnessFlow.NONE);
    }

    private static void none() {
        Subject x = Scenes.scene(3);
        String before = x.picture();
        for (int o : new int[] {Integer.MIN_VALUE, -1, 2, 3, 31, 32, Integer.MAX_VALUE}) {
            EXPECT.same("field(" + o + ", 1)", x.field(o, 1), NullnessFlow.NONE);
        }
        for (int f : new int[] {Integer.MIN_VALUE, -1, 4, 5, Integer.MAX_VALUE}) {
            EXPECT.same("field(0, " + f + ")", x.field(0, f), NullnessFlow.NONE);
        }
        EXPECT.same("the last object", x.field(1, 1), 0);
        EXPECT.same("picture", x.picture(), before);
    }

    // An object made after a new START must not show what an earlier one of its number held.
    private static void newObjectsAreEmpty() {
        Subject x = new Subject(32, 32, 2).make(0, 1, 0).put(0, 0, 0).put(0, 1, 0).put(0, 2, 0).put(0, 3, 0).jump(0);
        x.check();
        EXPECT.same("status", x.run(10000), NullnessFlow.TRAP_HEAP);
        for (int f = 0; f < 4; f++) {
            EXPECT.same("object 31, field " + f, x.field(31, f), 31);
        }
        x.check();
        x.run(1);
        for (int f = 0; f < 4; f++) {
            EXPECT.same("made anew, field " + f, x.field(0, f), -1);
            EXPECT.same("not yet made, field " + f, x.field(1, f), NullnessFlow.NONE);
        }
    }
}
