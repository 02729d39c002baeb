import java.util.Arrays;

// Promise 5: emit appends one instruction to the selected block and resets; a refused call changes nothing.
public final class EmitTest {
    // The operands that each op uses, with the document's letters, in the order a, b, c.
    private static final String[] OPERANDS = {"d", "ds", "dks", "dsf", "xfs", "st", "st", "t", "", "s"};
    private static final int CODE_CAP = Scenes.CODE_CAP;

    private static final Expect EXPECT = new Expect();

    public static void main(String[] args) {
        appends();
        unusedOperands();
        noSuchOp();
        operandsInRange();
        operandsBeyond();
        targets();
        fullBlock();
        resets();
        nothingElse();
        EXPECT.end();
    }

    private static boolean uses(int op, int operand) {
        return operand < OPERANDS[op].length();
    }

    private static int least(int op, int operand) {
        return OPERANDS[op].charAt(operand) == 'k' ? 1 : 0;
    }

    private static int most(int op, int operand, int codeCap) {
        return switch (OPERANDS[op].charAt(operand)) {
            case 'k', 'f' -> 3;
            case 't' -> codeCap;
            default -> 7;
        };
    }

    private static boolean emit(Subject x, int[] call) {
        return x.emit(call[0], call[1], call[2], call[3]);
    }

    private static void taken(String what, Subject x, int[] call, int[] stored) {
        int block = x.info(14);
        int len = x.info(10 + block);
        EXPECT.yes(what + Arrays.toString(call), emit(x, call));
        EXPECT.same(what + Arrays.toString(call) + ": len", x.info(10 + block), len + 1);
        for (int part = 0; part < 4; part++) {
            String where = what + Arrays.toString(call) + ": part " + part;
            EXPECT.same(where, x.code(block, len, part), stored[part]);
        }
    }

    private static void appends() {
        EXPECT.sentence("Appends one instruction at pc len of the selected block, so that block's len grows by one,"
                + " and answers true.");
        for (int cap : new int[] {8, 9, 31, 32}) {
            for (int block = 0; block < 4; block++) {
                Subject x = new Subject(cap, 8, 1).in(block);
                for (int pc = 0; pc < cap; pc++) {
                    int[] call = {NullnessFlow.NEW, pc % 8, 1 + pc % 3, 7 - pc % 8};
                    taken("instruction " + pc + " of " + cap + ", emit", x, call, call);
                }
                for (int pc = 0; pc < cap; pc++) {
                    EXPECT.same("kept at " + pc, x.code(block, pc, 1), pc % 8);
                }
            }
        }
    }

    private static void unusedOperands() {
        EXPECT.sentence("Operands the op does not use are stored as 0, whatever was passed.");
        for (int op = 0; op < OPERANDS.length; op++) {
            for (int rubbish : Beyond.anything()) {
                int[] call = {op, rubbish, rubbish, rubbish};
                int[] stored = {op, 0, 0, 0};
                for (int operand = 0; operand < 3; operand++) {
                    if (uses(op, operand)) {
                        call[operand + 1] = 1;
                        stored[operand + 1] = 1;
                    }
                }
                taken("emit", new Subject(), call, stored);
            }
        }
    }

    private static void noSuchOp() {
        EXPECT.sentence("Refused if op is not in 0..9");
        for (int op : Beyond.range(0, 9)) {
            Scenes.refuse(EXPECT, "emit(" + op + ", 1, 1, 1)", x -> x.emit(op, 1, 1, 1));
            Scenes.refuse(EXPECT, "emit(" + op + ", 0, 0, 0)", x -> x.emit(op, 0, 0, 0));
        }
    }

    private static void operandsInRange() {
        EXPECT.sentence("(d, s, x in 0..7; f in 0..3; k in 1..3; t in 0..codeCap)");
        for (int op = 0; op < OPERANDS.length; op++) {
            // Each of eight choices takes every operand at its least or at its greatest.
            for (int choice = 0; choice < 8; choice++) {
                int[] call = {op, 0, 0, 0};
                for (int operand = 0; operand < OPERANDS[op].length(); operand++) {
                    boolean greatest = (choice >> operand & 1) == 1;
                    call[operand + 1] = greatest ? most(op, operand, CODE_CAP) : least(op, operand);
                }
                taken("emit", new Subject(CODE_CAP, 8, 1), call, call);
            }
        }
    }

    private static void operandsBeyond() {
        EXPECT.sentence("if an operand the op uses is out of its range");
        for (int op = 0; op < OPERANDS.length; op++) {
            for (int operand = 0; operand < OPERANDS[op].length(); operand++) {
                for (int wrong : Beyond.range(least(op, operand), most(op, operand, CODE_CAP))) {
                    int[] call = {op, 1, 1, 1};
                    call[operand + 1] = wrong;
                    Scenes.refuse(EXPECT, "emit" + Arrays.toString(call), x -> emit(x, call));
                }
            }
        }
    }

    private static void targets() {
        EXPECT.sentence("t in 0..codeCap");
        for (int cap = 8; cap <= 32; cap++) {
            String what = "codeCap " + cap + ", emit";
            for (int t = 0; t <= cap; t++) {
                for (int[] call : callsWithTarget(t)) {
                    taken(what, new Subject(cap, 8, 1), call, call);
                }
            }
            for (int t : Beyond.range(0, cap)) {
                for (int[] call : callsWithTarget(t)) {
                    Scenes.refuse(EXPECT, what + Arrays.toString(call), new Subject(cap, 8, 1), x -> emit(x, call));
                }
            }
        }
    }

    private static int[][] callsWithTarget(int t) {
        return new int[][] {
            {NullnessFlow.JMP, t, 0, 0}, {NullnessFlow.IFNULL, 2, t, 0}, {NullnessFlow.IFNONNULL, 2, t, 0}};
    }

    private static void fullBlock() {
        EXPECT.sentence("or if the block already holds codeCap instructions.");
        for (int cap : new int[] {8, 9, 16, 31, 32}) {
            for (int block = 0; block < 4; block++) {
                Subject x = new Subject(cap, 8, 1).in(block).pad(cap - 1);
                EXPECT.yes("room for the last of " + cap, x.emit(NullnessFlow.OUT, 3, 0, 0));
                refuseEveryOp("full block of " + cap, x);
                x.check();
                refuseEveryOp("full block of " + cap + ", checked", x);
                x.run(cap + 1);
                refuseEveryOp("full block of " + cap + ", halted", x);
                x.in((block + 1) % 4);
                EXPECT.yes("another block than the full one", x.emit(NullnessFlow.RET, 0, 0, 0));
            }
        }
        // In this scene all blocks but the selected one are full.
        for (int block = 0; block < 3; block++) {
            refuseEveryOp("full scene", Scenes.scene(6).in(block));
        }
    }

    private static void refuseEveryOp(String what, Subject x) {
        for (int op = 0; op < OPERANDS.length; op++) {
            int ordinary = op;
            Scenes.refuse(EXPECT, what + ", op " + op, x, y -> y.emit(ordinary, 1, 1, 1));
        }
    }

    private static void resets() {
        EXPECT.sentence("On success the Edits reset applies.");
        for (int scene = 0; scene < Scenes.COUNT; scene++) {
            for (int op = 0; op < OPERANDS.length; op++) {
                Subject x = Scenes.scene(scene);
                String what = Scenes.name(scene) + ", op " + op;
                EXPECT.yes(what, x.emit(op, 1, 1, 1));
                Scenes.wasReset(EXPECT, what, x);
            }
        }
    }

    private static void nothingElse() {
        EXPECT.sentence("Other blocks and the selection stay.");
        for (int scene = 0; scene < Scenes.COUNT; scene++) {
            for (int op = 0; op < OPERANDS.length; op++) {
                Subject x = Scenes.scene(scene);
                int block = x.info(14);
                int[] due = Scenes.program(x);
                int cell = Scenes.codeCell(block, due[10 + block]++);
                due[cell] = op;
                for (int operand = 0; operand < 3; operand++) {
                    due[cell + 1 + operand] = uses(op, operand) ? 1 : 0;
                }
                x.emit(op, 1, 1, 1);
                String what = Scenes.name(scene) + ", op " + op;
                EXPECT.same(what, Arrays.toString(Scenes.program(x)), Arrays.toString(due));
            }
        }
    }
}
