// Promise 13: field answers what a field of an object holds, and NONE where there is no such object or field.
public final class FieldTest {
    private static final Expect EXPECT = new Expect();

    public static void main(String[] args) {
        held();
        greatestNumber();
        noSuchObject();
        noObjects();
        noSuchField();
        changesNothing();
        EXPECT.end();
    }

    private static void none(Subject x, int o, int f) {
        Scenes.answerNone(EXPECT, "field(" + o + ", " + f + ")", x, y -> y.field(o, f));
    }

    // 32 objects, each with itself in all its fields.
    private static Subject full() {
        Subject x = new Subject(32, 32, 2).make(0, 1, 0).put(0, 0, 0).put(0, 1, 0).put(0, 2, 0).put(0, 3, 0).jump(0);
        x.check();
        x.run(10000);
        return x;
    }

    private static void held() {
        EXPECT.sentence("Field f of object o: an object number, or -1 for null.");
        Subject x = new Subject().make(0, 1, 7).make(1, 1, 7).make(2, 1, 7);
        x.put(0, 0, 1).put(0, 3, 2).put(1, 1, 0).put(1, 2, 1).put(2, 0, 2).put(2, 1, 1).put(2, 2, 0).put(2, 1, 7);
        x.check();
        x.run(100);
        int[][] due = {{1, -1, -1, 2}, {-1, 0, 1, -1}, {2, -1, 0, -1}};
        for (int o = 0; o < 3; o++) {
            for (int f = 0; f < 4; f++) {
                EXPECT.same("field(" + o + ", " + f + ")", x.field(o, f), due[o][f]);
            }
        }
    }

    private static void greatestNumber() {
        Subject x = full();
        for (int o = 0; o < 32; o++) {
            for (int f = 0; f < 4; f++) {
                EXPECT.same("field(" + o + ", " + f + ")", x.field(o, f), o);
            }
        }
    }

    private static void noSuchObject() {
        EXPECT.sentence("Answers NONE unless o is in 0..objects-1");
        for (int cap : new int[] {8, 31, 32}) {
            Subject x = new Subject(8, cap, 2).make(0, 1, 0).jump(0);
            x.check();
            for (int objects = 0; objects <= cap; objects++) {
                EXPECT.same("objects", x.info(17), objects);
                if (objects > 0) {
                    EXPECT.same("the last object", x.field(objects - 1, 3), -1);
                }
                for (int o : Beyond.range(0, objects - 1)) {
                    none(x, o, 0);
                    none(x, o, 3);
                    none(x, o, 4);
                }
                x.run(3);
            }
        }
    }

    // What an earlier run left in the heap is not there after a check or an edit, and not in the objects made anew.
    private static void noObjects() {
        Subject x = full();
        x.check();
        for (int o = -1; o <= 32; o++) {
            none(x, o, 0);
        }
        x.run(1);
        for (int f = 0; f < 4; f++) {
            EXPECT.same("made anew, field " + f, x.field(0, f), -1);
            none(x, 1, f);
        }
        x.declareField(0, NullnessFlow.NULLABLE);
        none(x, 0, 0);
    }

    private static void noSuchField() {
        EXPECT.sentence("and f is in 0..3.");
        Subject x = full();
        for (int f : Beyond.range(0, 3)) {
            for (int o : new int[] {0, 1, 8, 30, 31}) {
                none(x, o, f);
            }
            Scenes.answerNone(EXPECT, "field(0, " + f + ")", y -> y.field(0, f));
        }
    }

    private static void changesNothing() {
        EXPECT.sentence("Changes nothing.");
        for (int f = 0; f < 4; f++) {
            int g = f;
            Scenes.leaveAll(EXPECT, "field(0, " + g + ")", x -> x.field(0, g));
        }
    }
}
