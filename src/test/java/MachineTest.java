// The section "The machine": the heap, the stack, the output, and what each step does at its edges.
public final class MachineTest {
    private static final int NN = NullnessFlow.NONNULL;
    private static final int COMMITTED = NullnessFlow.COMMITTED;
    private static final int RUNNING = NullnessFlow.RUNNING;
    private static final int HALTED = NullnessFlow.HALTED;

    private static final Expect EXPECT = new Expect();

    public static void main(String[] args) {
        objects();
        fields();
        stack();
        mainFrame();
        outputList();
        start();
        topFrame();
        returnAtEnd();
        returnOfOnlyFrame();
        returnToCaller();
        assignments();
        outputs();
        targets();
        getOfNull();
        getOfNullField();
        getElse();
        getOfEachObject();
        putIntoNull();
        putOfNull();
        putElse();
        trapOrderOfNew();
        newAtItsLimits();
        newObject();
        newFrame();
        traps();
        EXPECT.end();
    }

    private static Subject checked(Subject x) {
        x.check();
        return x;
    }

    private static void slots(String what, Subject x, int fr, int... due) {
        for (int slot = 0; slot < due.length; slot++) {
            EXPECT.same(what + ", slot " + slot, x.frame(fr, slot), due[slot]);
        }
    }

    private static void objects() {
        EXPECT.sentence("objects numbered 0, 1, ... in the order they are made (at most heapCap).");
        for (int cap = 8; cap <= 32; cap++) {
            Subject x = checked(new Subject(8, cap, 2).make(3, 1, 0).jump(0));
            for (int made = 0; made < cap; made++) {
                EXPECT.same("objects before", x.info(17), made);
                EXPECT.same("room for object " + made, x.run(1), RUNNING);
                EXPECT.same("objects then", x.info(17), made + 1);
                EXPECT.same("its number", x.frame(1, 11), made);
                x.run(2);
                EXPECT.same("its number in a local", x.frame(0, 3), made);
            }
            EXPECT.same("no room for one more than " + cap, x.run(1), NullnessFlow.TRAP_HEAP);
            EXPECT.same("objects", x.info(17), cap);
        }
    }

    private static void fields() {
        EXPECT.sentence("Each has four fields, each holding an object number or -1 (null).");
        // Each object but the first comes to hold the one before it in all four fields, then null in one of them.
        Subject x = new Subject(16, 32, 2).make(0, 1, 7).ifNull(1, 6);
        x.put(0, 0, 1).put(0, 1, 1).put(0, 2, 1).put(0, 3, 1).put(0, 2, 7).move(1, 0).jump(0).check();
        EXPECT.same("to a full heap", x.run(10000), NullnessFlow.TRAP_HEAP);
        for (int o = 0; o < 32; o++) {
            for (int f = 0; f < 4; f++) {
                EXPECT.same("field " + f + " of object " + o, x.field(o, f), f == 2 ? -1 : o - 1);
            }
        }
    }

    private static void stack() {
        EXPECT.sentence("STACK: 1..maxDepth frames; frame 0 is MAIN's.");
        for (int most = 1; most <= 8; most++) {
            Subject x = checked(new Subject(8, 8, most).make(0, 2, 0).in(2).make(2, 2, 0));
            for (int frames = 1; frames < most; frames++) {
                EXPECT.same("frames before", x.info(19), frames);
                EXPECT.same("room for a frame", x.run(1), RUNNING);
                EXPECT.same("its block", x.frame(frames, 8), 2);
                EXPECT.same("block of frame 0", x.frame(0, 8), 0);
            }
            EXPECT.same("no room for one more than " + most, x.run(1), NullnessFlow.TRAP_DEPTH);
            EXPECT.same("frames", x.info(19), most);
        }
    }

    private static void mainFrame() {
        EXPECT.sentence("a destination local and an own object (both -1 for MAIN).");
        Subject x = checked(new Subject().make(0, 1, 7).make(7, 2, 0));
        for (int i = 0; i < 6; i++) {
            EXPECT.same("destination", x.frame(0, 10), -1);
            EXPECT.same("own object", x.frame(0, 11), -1);
            x.run(1);
        }
    }

    private static void outputList() {
        EXPECT.sentence("OUTPUT: a list of at most 16 values.");
        Subject x = checked(new Subject().make(0, 1, 7).show(0).show(7).jump(1));
        x.run(2);
        for (int shown = 0; shown < 40; shown++) {
            EXPECT.same("outputs", x.info(18), Math.min(shown, 16));
            // Two outputs and a jump make a round.
            x.run(shown % 2 == 0 ? 1 : 2);
        }
        for (int i = 0; i < 16; i++) {
            EXPECT.same("output " + i, x.out(i), i % 2 == 0 ? 0 : -1);
        }
    }

    private static void start() {
        EXPECT.sentence("START: no objects, empty output, one frame (block 0, pc 0, all locals -1), status RUNNING.");
        for (int scene = 0; scene < Scenes.COUNT; scene++) {
            Subject x = checked(Scenes.scene(scene));
            EXPECT.same("objects", x.info(17), 0);
            EXPECT.same("outputs", x.info(18), 0);
            EXPECT.same("frames", x.info(19), 1);
            slots(Scenes.name(scene), x, 0, -1, -1, -1, -1, -1, -1, -1, -1, 0, 0, -1, -1);
            EXPECT.same("status", x.info(16), RUNNING);
        }
    }

    private static void topFrame() {
        EXPECT.sentence("A STEP acts on the top frame");
        Subject x = checked(new Subject().make(3, 1, 7).in(1).make(4, 2, 7).in(2).move(5, 0).nil(0).jump(0));
        x.run(2);
        for (int i = 0; i < 30; i++) {
            slots("MAIN's frame", x, 0, -1, -1, -1, -1, -1, -1, -1, -1, 0, 1, -1, -1);
            slots("the frame between", x, 1, 0, -1, -1, -1, -1, -1, -1, -1, 1, 1, 3, 0);
            EXPECT.same("the top frame's pc", x.frame(2, 9), i % 3);
            x.run(1);
        }
        for (int d = 0; d < 8; d++) {
            topLocal(d);
        }
    }

    // MAIN's locals all name object 0 while object 1's constructor assigns to each of its own.
    private static void topLocal(int d) {
        Subject x = new Subject().make(0, 2, 0);
        for (int local = 1; local < 8; local++) {
            x.move(local, 0);
        }
        x.make(7, 1, 0).in(1).move(d, 0).nil(d).move(d, 1).check();
        x.run(2 + 7 + 1);
        int[] values = {1, -1, d == 1 ? -1 : 0};
        for (int due : values) {
            x.run(1);
            slots("MAIN's locals stay", x, 0, 0, 0, 0, 0, 0, 0, 0, 0, 0, 9, -1, -1);
            EXPECT.same("local " + d + " of the top frame", x.frame(1, d), due);
        }
    }

    private static void returnAtEnd() {
        EXPECT.sentence("pc >= len of its block, or op RET: RETURN.");
        EXPECT.same("an empty MAIN", checked(new Subject()).run(1), HALTED);
        Subject empty = checked(new Subject().make(2, 3, 7));
        empty.run(2);
        EXPECT.same("an empty constructor", empty.frame(0, 2), 0);
        // The block of the top frame counts: the constructor is shorter than MAIN, then longer.
        Subject shorter = checked(new Subject().make(2, 1, 7).pad(9).in(1).pad(1));
        shorter.run(3);
        EXPECT.same("a constructor shorter than MAIN", shorter.info(19), 1);
        Subject longer = checked(new Subject().make(2, 1, 7).in(1).pad(9));
        longer.run(10);
        EXPECT.same("a constructor longer than MAIN", longer.info(19), 2);
        longer.run(1);
        EXPECT.same("and its return", longer.info(19), 1);
        for (int t = 1; t <= 32; t++) {
            EXPECT.same("MAIN at pc " + t, checked(new Subject().jump(t)).run(2), HALTED);
            Subject x = checked(new Subject().make(2, 1, 7).in(1).jump(t));
            x.run(3);
            EXPECT.same("a constructor at pc " + t, x.info(19), 1);
        }
        EXPECT.same("RET first", checked(new Subject().ret().pad(31)).run(1), HALTED);
        EXPECT.same("RET last", checked(new Subject().pad(31).ret()).run(32), HALTED);
        Subject ret = checked(new Subject().make(2, 1, 7).in(1).ret().pad(2));
        ret.run(2);
        EXPECT.same("RET in a constructor", ret.info(19), 1);
    }

    private static void returnOfOnlyFrame() {
        EXPECT.sentence("If it is the only frame, the status becomes HALTED; the frame is not popped and its pc and"
                + " locals do not change, so the number of frames stays 1.");
        Subject[] programs = {new Subject(), new Subject().make(0, 1, 1).ret().nil(0), new Subject().make(7, 1, 1),
            new Subject().make(0, 1, 1).jump(31), new Subject(8, 8, 2).make(0, 1, 1).pad(7)};
        int[] before = {0, 2, 2, 3, 9};
        int[] pcs = {0, 1, 1, 31, 8};
        for (int i = 0; i < programs.length; i++) {
            Subject x = checked(programs[i]);
            x.run(before[i]);
            EXPECT.same("program " + i + ", before", x.info(16), RUNNING);
            String machine = x.pictureBut(16);
            EXPECT.same("program " + i, x.run(1), HALTED);
            EXPECT.same("program " + i + ": frames", x.info(19), 1);
            EXPECT.same("program " + i + ": pc", x.frame(0, 9), pcs[i]);
            EXPECT.same("program " + i + ": all else", x.pictureBut(16), machine);
        }
    }

    private static void returnToCaller() {
        EXPECT.sentence("Else the frame is popped, and the new top frame's destination local (the local numbered by the"
                + " popped frame's destination) := the popped frame's own object.");
        for (int d = 0; d < 8; d++) {
            // Constructor 1 loses this and has its own destinations; it returns its own object all the same.
            Subject x = checked(new Subject().make(d, 1, 7).in(1).make(7 - d, 2, 7).nil(0).move(2, 1));
            x.run(1);
            EXPECT.same("before the return", x.frame(0, d), -1);
            x.run(2);
            EXPECT.same("the inner return", x.info(19), 2);
            EXPECT.same("the inner object", x.frame(1, 7 - d), 1);
            EXPECT.same("not further down", x.frame(0, 7 - d), -1);
            x.run(3);
            EXPECT.same("the outer return", x.info(19), 1);
            for (int local = 0; local < 8; local++) {
                EXPECT.same("destination " + d + ", local " + local, x.frame(0, local), local == d ? 0 : -1);
            }
            EXPECT.same("the caller's pc", x.frame(0, 9), 1);
        }
    }

    private static void assignments() {
        EXPECT.sentence("NULL, MOVE: assign, then pc+1.");
        for (int d = 0; d < 8; d++) {
            int s = (d + 3) % 8;
            Subject x = checked(new Subject().make(s, 1, 0).move(d, s).move(d, d).nil(s).nil(s));
            x.run(3);
            EXPECT.same("MOVE", x.frame(0, d), 0);
            EXPECT.same("MOVE leaves its source", x.frame(0, s), 0);
            EXPECT.same("MOVE: pc", x.frame(0, 9), 2);
            x.run(1);
            EXPECT.same("MOVE to itself", x.frame(0, d), 0);
            x.run(1);
            EXPECT.same("NULL", x.frame(0, s), -1);
            EXPECT.same("NULL leaves the others", x.frame(0, d), 0);
            x.run(1);
            EXPECT.same("NULL again", x.frame(0, s), -1);
            EXPECT.same("NULL: pc", x.frame(0, 9), 5);
        }
    }

    private static void outputs() {
        EXPECT.sentence("OUT: append the value of s if fewer than 16 are held (else nothing); then pc+1.");
        Subject x = new Subject().make(0, 1, 7);
        for (int i = 0; i < 18; i++) {
            x.show(i == 14 || i == 16 ? 7 : 0);
        }
        x.check();
        x.run(2);
        for (int i = 0; i < 18; i++) {
            EXPECT.same("outputs before", x.info(18), Math.min(i, 16));
            EXPECT.same("OUT", x.run(1), RUNNING);
            EXPECT.same("outputs then", x.info(18), Math.min(i + 1, 16));
            EXPECT.same("pc", x.frame(0, 9), i + 2);
            EXPECT.same("the first", x.out(0), 0);
        }
        EXPECT.same("the fifteenth", x.out(14), -1);
        EXPECT.same("the sixteenth", x.out(15), 0);
        EXPECT.same("the seventeenth", x.out(16), NullnessFlow.NONE);
        EXPECT.same("to the end", x.run(1), HALTED);
    }

    private static void targets() {
        EXPECT.sentence("The pc becomes t as it was given, also where t is above len; the frame is then at END, and its"
                + " pc is still t.");
        for (int t = 2; t <= 32; t++) {
            atTarget("JMP " + t, checked(new Subject().jump(t).pad(1)), 1, t);
            atTarget("IFNULL " + t, checked(new Subject().ifNull(5, t).pad(1)), 1, t);
            atTarget("IFNONNULL " + t, checked(new Subject().make(5, 1, 7).ifNonNull(5, t)), 3, t);
            Subject x = checked(new Subject().make(5, 1, 7).in(1).jump(t).pad(1));
            x.run(2);
            EXPECT.same("JMP " + t + " in a constructor: pc", x.frame(1, 9), t);
            EXPECT.same("JMP " + t + " in a constructor: return", x.run(1), RUNNING);
            EXPECT.same("JMP " + t + " in a constructor: its object", x.frame(0, 5), 0);
            EXPECT.same("JMP " + t + " in a constructor: the caller's pc", x.frame(0, 9), 1);
        }
    }

    // The blocks here have two instructions, so that every target from 2 on means END.
    private static void atTarget(String what, Subject x, int steps, int t) {
        EXPECT.same(what, x.run(steps), RUNNING);
        EXPECT.same(what + ": pc", x.frame(0, 9), t);
        EXPECT.same(what + ": END", x.run(1), HALTED);
        EXPECT.same(what + ": pc once halted", x.frame(0, 9), t);
    }

    // The step traps, and leaves all but the status as it was.
    private static void traps(String what, Subject x, int before, int trap) {
        x.check();
        EXPECT.same(what + ": before", x.run(before), RUNNING);
        String picture = x.pictureBut(16);
        EXPECT.same(what, x.run(1), trap);
        EXPECT.same(what + ": status", x.info(16), trap);
        EXPECT.same(what + ": nothing done", x.pictureBut(16), picture);
    }

    private static void getOfNull() {
        EXPECT.sentence("GET: s null: TRAP_DEREF.");
        for (int f = 0; f < 4; f++) {
            traps("GET of null", new Subject().get(0, 1, f), 0, NullnessFlow.TRAP_DEREF);
            traps("GET of null, NONNULL field", new Subject().nonNullField(f).get(0, 1, f), 0, NullnessFlow.TRAP_DEREF);
            traps("GET in a constructor", new Subject().make(0, 1, 1).in(1).get(2, 1, f), 1, NullnessFlow.TRAP_DEREF);
        }
    }

    private static void getOfNullField() {
        EXPECT.sentence("If v is null and f is NONNULL: TRAP_NONNULL.");
        for (int f = 0; f < 4; f++) {
            traps("field " + f, new Subject().nonNullField(f).make(0, 1, 1).get(1, 0, f), 2, NullnessFlow.TRAP_NONNULL);
            traps("field " + f + " of this", new Subject().nonNullField(f).make(0, 1, 1).in(1).get(2, 0, f), 1,
                    NullnessFlow.TRAP_NONNULL);
        }
    }

    private static void getElse() {
        EXPECT.sentence("Else d := v, then pc+1.");
        for (int f = 0; f < 4; f++) {
            // All other fields are NONNULL, and null: they must not matter.
            Subject x = new Subject().make(0, 1, 1).get(0, 0, f);
            Subject y = new Subject().make(0, 1, 1).put(0, f, 0).get(3, 0, f).get(0, 0, f);
            for (int other = 0; other < 4; other++) {
                x.declareField(other, other == f ? NullnessFlow.NULLABLE : NN);
                y.declareField(other, other == f ? NN : NullnessFlow.NULLABLE);
            }
            x.check();
            EXPECT.same("null of a NULLABLE field", x.run(3), RUNNING);
            EXPECT.same("null", x.frame(0, 0), -1);
            EXPECT.same("pc", x.frame(0, 9), 2);
            y.check();
            EXPECT.same("an object of a NONNULL field", y.run(5), RUNNING);
            EXPECT.same("the object", y.frame(0, 3), 0);
            EXPECT.same("the object, into its source", y.frame(0, 0), 0);
            EXPECT.same("pc", y.frame(0, 9), 4);
        }
    }

    // Every object but the first holds the one before it in one field and itself in the next; a loop gets both.
    private static void getOfEachObject() {
        for (int f = 0; f < 4; f++) {
            int next = (f + 1) % 4;
            Subject x = new Subject(16, 32, 2).make(0, 1, 7).put(0, f, 1).put(0, next, 0).move(1, 0);
            x.get(2, 1, f).get(3, 1, next).get(4, 1, (f + 2) % 4).jump(0).check();
            for (int o = 0; o < 32; o++) {
                EXPECT.same("to object " + o, x.run(8), RUNNING);
                EXPECT.same("the one before object " + o, x.frame(0, 2), o - 1);
                EXPECT.same("object " + o + " itself", x.frame(0, 3), o);
                EXPECT.same("a field of object " + o + " that was not put", x.frame(0, 4), -1);
                x.run(1);
            }
        }
    }

    private static void putIntoNull() {
        EXPECT.sentence("PUT: x null: TRAP_DEREF.");
        for (int f = 0; f < 4; f++) {
            traps("an object into null", new Subject().make(0, 1, 1).put(1, f, 0), 2, NullnessFlow.TRAP_DEREF);
            traps("null into null", new Subject().put(0, f, 1), 0, NullnessFlow.TRAP_DEREF);
            traps("null into null, NONNULL field", new Subject().nonNullField(f).put(0, f, 1), 0,
                    NullnessFlow.TRAP_DEREF);
        }
    }

    private static void putOfNull() {
        EXPECT.sentence("Else if s is null and f is NONNULL: TRAP_NONNULL.");
        for (int f = 0; f < 4; f++) {
            traps("field " + f, new Subject().nonNullField(f).make(0, 1, 1).put(0, f, 1), 2, NullnessFlow.TRAP_NONNULL);
            traps("field " + f + " that is not null",
                    new Subject().nonNullField(f).make(0, 1, 1).put(0, f, 0).put(0, f, 1), 3,
                    NullnessFlow.TRAP_NONNULL);
        }
    }

    private static void putElse() {
        EXPECT.sentence("Else the field is set, then pc+1.");
        for (int f = 0; f < 4; f++) {
            Subject x = new Subject().make(0, 1, 7).make(1, 1, 7).put(0, f, 1).put(0, f, 7);
            for (int other = 0; other < 4; other++) {
                x.declareField(other, other == f ? NullnessFlow.NULLABLE : NN);
            }
            x.check();
            x.run(5);
            for (int o = 0; o < 2; o++) {
                for (int other = 0; other < 4; other++) {
                    boolean set = o == 0 && other == f;
                    EXPECT.same("field " + other + " of object " + o, x.field(o, other), set ? 1 : -1);
                }
            }
            EXPECT.same("pc", x.frame(0, 9), 3);
            EXPECT.same("null into a NULLABLE field", x.run(1), RUNNING);
            EXPECT.same("null", x.field(0, f), -1);
            EXPECT.same("pc", x.frame(0, 9), 4);
        }
    }

    // A NEW of constructor 3, whose parameter is NONNULL, given null or not, at the greatest depth or not, with all
    // objects made or not. Constructor 1 takes anything and constructor 2 makes the NEW one frame deeper.
    private static void trapOrderOfNew() {
        EXPECT.sentence("In order: v null and k's parameter NONNULL: TRAP_NONNULL; frames == maxDepth: TRAP_DEPTH;"
                + " objects == heapCap: TRAP_HEAP.");
        for (int choice = 0; choice < 8; choice++) {
            boolean isNull = (choice & 1) == 1;
            boolean deep = (choice & 2) == 2;
            boolean full = (choice & 4) == 4;
            Subject x = new Subject(16, 8, 2).param(3, NN, COMMITTED);
            int made = (full ? 8 : 7) - (deep ? 1 : 0);
            for (int i = 0; i < made; i++) {
                x.make(0, 1, 7);
            }
            int before = 2 * made;
            if (deep) {
                x.make(1, 2, 7).in(2);
                before++;
            }
            x.make(4, 3, isNull ? 6 : 0);
            String what = "null " + isNull + ", depth " + deep + ", heap " + full;
            if (isNull) {
                traps(what, x, before, NullnessFlow.TRAP_NONNULL);
            } else if (deep) {
                traps(what, x, before, NullnessFlow.TRAP_DEPTH);
            } else if (full) {
                traps(what, x, before, NullnessFlow.TRAP_HEAP);
            } else {
                EXPECT.same(what, checked(x).run(before + 1), RUNNING);
                EXPECT.same(what + ": objects", x.info(17), 8);
                EXPECT.same(what + ": frames", x.info(19), 2);
            }
        }
    }

    // The last frame and the last object are still given; a NULLABLE parameter takes null.
    private static void newAtItsLimits() {
        EXPECT.sentence("frames == maxDepth: TRAP_DEPTH; objects == heapCap: TRAP_HEAP.");
        Subject x = new Subject(16, 8, 3);
        for (int i = 0; i < 6; i++) {
            x.make(i, 3, 7);
        }
        x.make(6, 1, 7).in(1).make(2, 2, 7).check();
        EXPECT.same("the last frame and the last object", x.run(14), RUNNING);
        EXPECT.same("objects", x.info(17), 8);
        EXPECT.same("frames", x.info(19), 3);
        EXPECT.same("null is taken", x.frame(2, 1), -1);
        EXPECT.same("all return", x.run(100), HALTED);
        EXPECT.same("the object made last but one", x.frame(0, 6), 6);
    }

    private static void newObject() {
        EXPECT.sentence("Else object number (count of objects) is made with all fields -1; the current frame goes to"
                + " pc+1");
        // An earlier run has put something into the fields of all 32 objects.
        Subject x = new Subject(8, 32, 2).make(0, 1, 7).put(0, 0, 0).put(0, 1, 0).put(0, 2, 0).put(0, 3, 0).jump(0);
        x.check();
        x.run(10000);
        x.check();
        for (int o = 0; o < 32; o++) {
            x.run(1);
            EXPECT.same("objects", x.info(17), o + 1);
            EXPECT.same("the caller's pc", x.frame(0, 9), 1);
            for (int f = 0; f < 4; f++) {
                EXPECT.same("field " + f + " of object " + o, x.field(o, f), -1);
                EXPECT.same("field " + f + " of the one before", x.field(o - 1, f), o == 0 ? NullnessFlow.NONE : o - 1);
            }
            x.run(6);
        }
    }

    private static void newFrame() {
        EXPECT.sentence("a frame is pushed with block k, pc 0, all locals -1 except local 0 := the new object and local"
                + " 1 := v, destination d, and own object the new one.");
        for (int d = 0; d < 8; d++) {
            for (int k = 1; k <= 3; k++) {
                // The first call leaves values in all locals of the frame that the second one is given.
                Subject x = new Subject().make(6, k, 7).make(d, k, 6).make(d, k, 7).in(k);
                for (int local = 2; local < 8; local++) {
                    x.move(local, 0);
                }
                x.check();
                x.run(7);
                slots("all locals set", x, 1, 0, -1, 0, 0, 0, 0, 0, 0, k, 6, 6, 0);
                x.run(2);
                slots("given an object", x, 1, 1, 0, -1, -1, -1, -1, -1, -1, k, 0, d, 1);
                x.run(8);
                slots("given null", x, 1, 2, d == 7 ? 1 : -1, -1, -1, -1, -1, -1, -1, k, 0, d, 2);
            }
        }
    }

    private static void traps() {
        EXPECT.sentence("On a trap the instruction does nothing and the status becomes the trap.");
        traps("GET into its source", new Subject().nonNullField(0).make(0, 1, 1).get(0, 0, 0), 2,
                NullnessFlow.TRAP_NONNULL);
        traps("PUT at the last pc", new Subject().pad(31).put(7, 0, 7), 31, NullnessFlow.TRAP_DEREF);
        traps("NEW into its argument", new Subject().param(3, NN, COMMITTED).make(1, 3, 1), 0,
                NullnessFlow.TRAP_NONNULL);
        traps("the greatest depth", new Subject(8, 8, 8).make(0, 1, 0).in(1).make(2, 1, 0), 7,
                NullnessFlow.TRAP_DEPTH);
        traps("the least depth", new Subject(8, 8, 1).make(0, 1, 0), 0, NullnessFlow.TRAP_DEPTH);
        traps("the most objects", new Subject(8, 32, 2).make(0, 1, 0).jump(0), 96, NullnessFlow.TRAP_HEAP);
        traps("the fewest objects", new Subject(8, 8, 2).make(0, 1, 0).jump(0), 24, NullnessFlow.TRAP_HEAP);
    }
}
