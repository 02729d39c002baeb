// A tiny object program, the checker for its null and uninitialised uses, and the machine that runs it.
public final class NullnessFlow {
    public static final int NONNULL = 0, NULLABLE = 1;
    public static final int COMMITTED = 0, FREE = 1, UNCLASSIFIED = 2;
    public static final int NULL = 0, MOVE = 1, NEW = 2, GET = 3, PUT = 4;
    public static final int IFNULL = 5, IFNONNULL = 6, JMP = 7, RET = 8, OUT = 9;
    public static final int OK = 0, ERR_THIS = 1, ERR_NULLARG = 2, ERR_INITARG = 3;
    public static final int ERR_DEREF = 4, ERR_UNINIT = 5, ERR_NULLSTORE = 6;
    public static final int ERR_ESCAPE = 7, ERR_INCOMPLETE = 8;
    public static final int NOT_READY = 20, RUNNING = 21, HALTED = 22;
    public static final int TRAP_DEREF = 23, TRAP_NONNULL = 24;
    public static final int TRAP_DEPTH = 25, TRAP_HEAP = 26;
    public static final int UNCHECKED = 30, ACCEPTED = 31, REJECTED = 32;
    public static final int NONE = -2;

    private static final int BLOCKS = 4, FIELDS = 4, LOCALS = 8, PARTS = 4;
    private static final int LEAST_CODE = 8, MOST_CODE = 32, MOST_POINTS = 33;
    private static final int LEAST_HEAP = 8, MOST_HEAP = 32;
    private static final int LEAST_DEPTH = 1, MOST_DEPTH = 8;
    private static final int MOST_OUTPUTS = 16, MOST_STEPS = 10000;

    // A frame is held as its slots in the order in which frame() numbers them.
    private static final int SLOTS = 12;
    private static final int SLOT_BLOCK = 8, SLOT_PC = 9, SLOT_DESTINATION = 10, SLOT_OWN = 11;

    // A triple is held as state() answers it, n + 2 * i + 8 * F, so that a join is a few masks.
    private static final int NULLNESS_BITS = 1, INIT_BITS = 6, KNOWN_BITS = 120;
    private static final int INIT_UNIT = 2, KNOWN_UNIT = 8;
    private static final int NULLV = NULLABLE + INIT_UNIT * COMMITTED;
    private static final int UNREACHED = -1;

    private static final int PROGRAM_CELLS = BLOCKS * MOST_CODE * PARTS;
    private static final int SOLUTION_CELLS = BLOCKS * MOST_POINTS * LOCALS;
    private static final int HEAP_CELLS = MOST_HEAP * FIELDS;
    private static final int FRAME_CELLS = MOST_DEPTH * SLOTS;

    private static final int NULL_REFERENCE = -1, NO_DESTINATION = -1;
    private static final int UNUSED = -1;
    private static final int NO_PLACE = -1, BLOCK_PLACES = 64;

    // Each round but the last raises a triple, and a block's triples can rise fewer than 2000 times in all.
    private static final int MOST_ROUNDS = 1000000;

    private final int codeCap;
    private final int heapCap;
    private final int maxDepth;

    private final int[] fieldKind = new int[FIELDS];
    // Indexed by block, so that constructor k needs no shift; MAIN's entry is not used.
    private final int[] paramNullness = new int[BLOCKS];
    private final int[] paramInit = new int[BLOCKS];
    private final int[] length = new int[BLOCKS];
    private final int[] program = new int[PROGRAM_CELLS];
    private int selected;

    private final int[] solution = new int[SOLUTION_CELLS];
    // The state that is on its way along an edge.
    private final int[] edge = new int[LOCALS];
    private int checkerStatus;
    private int errorCode;
    private int errorPlace;

    private final int[] heap = new int[HEAP_CELLS];
    private final int[] frames = new int[FRAME_CELLS];
    private final int[] outputs = new int[MOST_OUTPUTS];
    private int machineStatus;
    private int objectCount;
    private int frameCount;
    private int outputCount;

    public NullnessFlow(int codeCap, int heapCap, int maxDepth) {
        this.codeCap = clamp(codeCap, LEAST_CODE, MOST_CODE);
        this.heapCap = clamp(heapCap, LEAST_HEAP, MOST_HEAP);
        this.maxDepth = clamp(maxDepth, LEAST_DEPTH, MOST_DEPTH);
        for (int f = 0; f < FIELDS; f++) {
            fieldKind[f] = NULLABLE;
        }
        for (int block = 0; block < BLOCKS; block++) {
            paramNullness[block] = NULLABLE;
            paramInit[block] = COMMITTED;
            length[block] = 0;
        }
        selected = 0;
        resetAfterEdit();
    }

    // ---- The program ----

    public boolean declareField(int f, int kind) {
        if (!within(f, 0, FIELDS - 1) || !within(kind, NONNULL, NULLABLE)) {
            return false;
        }
        fieldKind[f] = kind;
        resetAfterEdit();
        return true;
    }

    public boolean declareParam(int k, int nullness, int init) {
        if (!within(k, 1, BLOCKS - 1)
                || !within(nullness, NONNULL, NULLABLE)
                || !within(init, COMMITTED, UNCLASSIFIED)) {
            return false;
        }
        paramNullness[k] = nullness;
        paramInit[k] = init;
        resetAfterEdit();
        return true;
    }

    public boolean select(int block) {
        if (!within(block, 0, BLOCKS - 1)) {
            return false;
        }
        selected = block;
        return true;
    }

    public boolean emit(int op, int a, int b, int c) {
        if (!within(op, NULL, OUT) || length[selected] >= codeCap) {
            return false;
        }
        int mostA = mostOfA(op);
        int mostB = mostOfB(op);
        int mostC = mostOfC(op);
        int leastB = op == NEW ? 1 : 0;
        if (!operandFits(a, 0, mostA) || !operandFits(b, leastB, mostB) || !operandFits(c, 0, mostC)) {
            return false;
        }
        int at = codeAt(selected, length[selected]);
        program[at] = op;
        program[at + 1] = mostA == UNUSED ? 0 : a;
        program[at + 2] = mostB == UNUSED ? 0 : b;
        program[at + 3] = mostC == UNUSED ? 0 : c;
        length[selected]++;
        resetAfterEdit();
        return true;
    }

    private int mostOfA(int op) {
        if (op == RET) {
            return UNUSED;
        }
        return op == JMP ? codeCap : LOCALS - 1;
    }

    private int mostOfB(int op) {
        switch (op) {
            case MOVE:
            case GET:
                return LOCALS - 1;
            case NEW:
                return BLOCKS - 1;
            case PUT:
                return FIELDS - 1;
            case IFNULL:
            case IFNONNULL:
                return codeCap;
            default:
                return UNUSED;
        }
    }

    private static int mostOfC(int op) {
        switch (op) {
            case NEW:
            case PUT:
                return LOCALS - 1;
            case GET:
                return FIELDS - 1;
            default:
                return UNUSED;
        }
    }

    private static boolean operandFits(int operand, int least, int most) {
        return most == UNUSED || within(operand, least, most);
    }

    private void resetAfterEdit() {
        checkerStatus = UNCHECKED;
        clearMachine();
        machineStatus = NOT_READY;
    }

    // ---- The checker ----

    public int check() {
        for (int block = 0; block < BLOCKS; block++) {
            enter(block);
            solve(block);
        }
        report();
        checkerStatus = errorCode == OK ? ACCEPTED : REJECTED;
        startMachine();
        return errorCode;
    }

    private void enter(int block) {
        int start = stateAt(block, 0);
        int cells = (length[block] + 1) * LOCALS;
        for (int cell = 0; cell < cells; cell++) {
            solution[start + cell] = UNREACHED;
        }
        for (int local = 0; local < LOCALS; local++) {
            solution[start + local] = NULLV;
        }
        if (block != 0) {
            solution[start] = NONNULL + INIT_UNIT * FREE;
            solution[start + 1] = paramNullness[block] + INIT_UNIT * paramInit[block];
        }
    }

    // Sweeps over the points until nothing rises. The edges are monotone, so what is left is the least solution.
    private void solve(int block) {
        boolean rose = true;
        for (int round = 0; rose && round < MOST_ROUNDS; round++) {
            rose = false;
            for (int point = 0; point < length[block]; point++) {
                if (isReached(block, point) && flow(block, point)) {
                    rose = true;
                }
            }
        }
    }

    private boolean isReached(int block, int point) {
        return solution[stateAt(block, point)] != UNREACHED;
    }

    // Sends a reached point's state along its edges; answers whether a point rose by it.
    private boolean flow(int block, int point) {
        int at = codeAt(block, point);
        int op = program[at];
        int a = program[at + 1];
        int b = program[at + 2];
        int c = program[at + 3];
        loadEdge(block, point);
        if (op == IFNULL) {
            return flowTest(block, a, b, point + 1);
        }
        if (op == IFNONNULL) {
            return flowTest(block, a, point + 1, b);
        }
        changeEdge(op, a, b, c);
        int target = point + 1;
        if (op == JMP) {
            target = a;
        } else if (op == RET) {
            target = length[block];
        }
        return arrive(block, target);
    }

    private void loadEdge(int block, int point) {
        int start = stateAt(block, point);
        for (int local = 0; local < LOCALS; local++) {
            edge[local] = solution[start + local];
        }
    }

    private boolean flowTest(int block, int tested, int nullTarget, int nonNullTarget) {
        boolean mayBeNull = nullnessOf(edge[tested]) == NULLABLE;
        edge[tested] = edge[tested] & (INIT_BITS | KNOWN_BITS);
        boolean rose = arrive(block, nonNullTarget);
        if (mayBeNull) {
            edge[tested] = NULLV;
            if (arrive(block, nullTarget)) {
                rose = true;
            }
        }
        return rose;
    }

    private void changeEdge(int op, int a, int b, int c) {
        switch (op) {
            case NULL:
                edge[a] = NULLV;
                break;
            case MOVE:
                edge[a] = edge[b];
                break;
            case NEW:
                changeByNew(a, c);
                break;
            case GET:
                changeByGet(a, b, c);
                break;
            case PUT:
                changeByPut(a, b, c);
                break;
            default:
                break;
        }
    }

    // The constructor may put null into a NULLABLE field of any object, so only NONNULL fields stay known.
    private void changeByNew(int d, int s) {
        int init = initOf(edge[s]);
        for (int f = 0; f < FIELDS; f++) {
            if (fieldKind[f] == NULLABLE) {
                forgetField(f);
            }
        }
        edge[d] = NONNULL + INIT_UNIT * init;
    }

    private void changeByGet(int d, int s, int f) {
        int nullness = fieldKind[f] == NONNULL || knows(edge[s], f) ? NONNULL : NULLABLE;
        int init = initOf(edge[s]) == COMMITTED ? COMMITTED : UNCLASSIFIED;
        edge[d] = nullness + INIT_UNIT * init;
    }

    // Any other local may name x's object too, so a null that may be put is forgotten of all of them.
    private void changeByPut(int x, int f, int s) {
        if (nullnessOf(edge[s]) == NONNULL) {
            edge[x] = edge[x] | (KNOWN_UNIT << f);
        } else {
            forgetField(f);
        }
    }

    private void forgetField(int f) {
        for (int local = 0; local < LOCALS; local++) {
            edge[local] = edge[local] & ~(KNOWN_UNIT << f);
        }
    }

    // Joins the edge's state into its target; answers whether the target rose by it.
    private boolean arrive(int block, int target) {
        int point = target < length[block] ? target : length[block];
        int start = stateAt(block, point);
        boolean rose = false;
        for (int local = 0; local < LOCALS; local++) {
            int held = solution[start + local];
            int next = joined(held, edge[local]);
            if (next != held) {
                solution[start + local] = next;
                rose = true;
            }
        }
        return rose;
    }

    private static int joined(int held, int coming) {
        if (held == UNREACHED) {
            return coming;
        }
        int nullness = (held | coming) & NULLNESS_BITS;
        int known = held & coming & KNOWN_BITS;
        int init = held & INIT_BITS;
        if (init != (coming & INIT_BITS)) {
            init = INIT_UNIT * UNCLASSIFIED;
        }
        return nullness | init | known;
    }

    // Leaves the first error, by block and then by point, in errorCode and errorPlace.
    private void report() {
        errorCode = OK;
        errorPlace = NO_PLACE;
        for (int block = 0; block < BLOCKS; block++) {
            for (int point = 0; point <= length[block]; point++) {
                if (isReached(block, point)) {
                    errorCode = errorAt(block, point);
                }
                if (errorCode != OK) {
                    errorPlace = BLOCK_PLACES * block + point;
                    return;
                }
            }
        }
    }

    private int errorAt(int block, int point) {
        int start = stateAt(block, point);
        if (point == length[block]) {
            return block == 0 ? OK : endError(solution[start]);
        }
        int at = codeAt(block, point);
        int op = program[at];
        int a = program[at + 1];
        int b = program[at + 2];
        int c = program[at + 3];
        if (block != 0 && a == 0 && assignsLocal(op)) {
            return ERR_THIS;
        }
        switch (op) {
            case NEW:
                return newError(b, solution[start + c]);
            case GET:
                return getError(solution[start + b], c);
            case PUT:
                return putError(solution[start + a], b, solution[start + c]);
            default:
                return OK;
        }
    }

    private static boolean assignsLocal(int op) {
        return op == NULL || op == MOVE || op == NEW || op == GET;
    }

    private int newError(int k, int argument) {
        if (paramNullness[k] == NONNULL && nullnessOf(argument) == NULLABLE) {
            return ERR_NULLARG;
        }
        if (paramInit[k] != UNCLASSIFIED && initOf(argument) != paramInit[k]) {
            return ERR_INITARG;
        }
        return OK;
    }

    private int getError(int source, int f) {
        if (nullnessOf(source) == NULLABLE) {
            return ERR_DEREF;
        }
        if (fieldKind[f] == NONNULL && initOf(source) != COMMITTED && !knows(source, f)) {
            return ERR_UNINIT;
        }
        return OK;
    }

    private int putError(int holder, int f, int value) {
        if (nullnessOf(holder) == NULLABLE) {
            return ERR_DEREF;
        }
        if (fieldKind[f] == NONNULL && nullnessOf(value) == NULLABLE) {
            return ERR_NULLSTORE;
        }
        if (initOf(holder) != FREE && initOf(value) != COMMITTED) {
            return ERR_ESCAPE;
        }
        return OK;
    }

    private int endError(int own) {
        for (int f = 0; f < FIELDS; f++) {
            if (fieldKind[f] == NONNULL && !knows(own, f)) {
                return ERR_INCOMPLETE;
            }
        }
        return OK;
    }

    public int errorWhere() {
        return checkerStatus == REJECTED ? errorPlace : NO_PLACE;
    }

    public int state(int block, int pc, int local) {
        if (checkerStatus == UNCHECKED
                || !within(block, 0, BLOCKS - 1)
                || !within(pc, 0, length[block])
                || !within(local, 0, LOCALS - 1)) {
            return NONE;
        }
        // An unreached point holds -1 in every local, which is the answer due.
        return solution[stateAt(block, pc) + local];
    }

    // ---- The machine ----

    public int run(int steps) {
        if (checkerStatus == UNCHECKED) {
            return NOT_READY;
        }
        int limit = clamp(steps, 0, MOST_STEPS);
        for (int made = 0; made < limit && machineStatus == RUNNING; made++) {
            step();
        }
        return machineStatus;
    }

    private void clearMachine() {
        objectCount = 0;
        frameCount = 0;
        outputCount = 0;
    }

    private void startMachine() {
        clearMachine();
        pushFrame(0, NULL_REFERENCE, NO_DESTINATION, NULL_REFERENCE);
        machineStatus = RUNNING;
    }

    // MAIN's frame has no own object and no argument: as null references they leave all its locals null.
    private void pushFrame(int block, int argument, int destination, int own) {
        int top = frameCount * SLOTS;
        for (int local = 0; local < LOCALS; local++) {
            frames[top + local] = NULL_REFERENCE;
        }
        frames[top] = own;
        frames[top + 1] = argument;
        frames[top + SLOT_BLOCK] = block;
        frames[top + SLOT_PC] = 0;
        frames[top + SLOT_DESTINATION] = destination;
        frames[top + SLOT_OWN] = own;
        frameCount++;
    }

    private void step() {
        int top = (frameCount - 1) * SLOTS;
        int block = frames[top + SLOT_BLOCK];
        int pc = frames[top + SLOT_PC];
        if (pc >= length[block]) {
            stepReturn(top);
            return;
        }
        int at = codeAt(block, pc);
        int op = program[at];
        int a = program[at + 1];
        int b = program[at + 2];
        int c = program[at + 3];
        switch (op) {
            case NEW:
                stepNew(top, a, b, c);
                break;
            case GET:
                stepGet(top, a, b, c);
                break;
            case PUT:
                stepPut(top, a, b, c);
                break;
            case RET:
                stepReturn(top);
                break;
            default:
                stepPlain(top, op, a, b);
                break;
        }
    }

    // The ops that neither trap nor touch the stack of frames.
    private void stepPlain(int top, int op, int a, int b) {
        int next = frames[top + SLOT_PC] + 1;
        switch (op) {
            case NULL:
                frames[top + a] = NULL_REFERENCE;
                break;
            case MOVE:
                frames[top + a] = frames[top + b];
                break;
            case IFNULL:
                next = frames[top + a] == NULL_REFERENCE ? b : next;
                break;
            case IFNONNULL:
                next = frames[top + a] != NULL_REFERENCE ? b : next;
                break;
            case JMP:
                next = a;
                break;
            case OUT:
                appendOutput(frames[top + a]);
                break;
            default:
                break;
        }
        frames[top + SLOT_PC] = next;
    }

    private void appendOutput(int value) {
        if (outputCount < MOST_OUTPUTS) {
            outputs[outputCount] = value;
            outputCount++;
        }
    }

    private void stepReturn(int top) {
        if (frameCount == 1) {
            machineStatus = HALTED;
            return;
        }
        int caller = top - SLOTS;
        frames[caller + frames[top + SLOT_DESTINATION]] = frames[top + SLOT_OWN];
        frameCount--;
    }

    private void stepNew(int top, int d, int k, int s) {
        int argument = frames[top + s];
        if (argument == NULL_REFERENCE && paramNullness[k] == NONNULL) {
            machineStatus = TRAP_NONNULL;
        } else if (frameCount == maxDepth) {
            machineStatus = TRAP_DEPTH;
        } else if (objectCount == heapCap) {
            machineStatus = TRAP_HEAP;
        } else {
            int made = objectCount;
            makeObject();
            frames[top + SLOT_PC]++;
            pushFrame(k, argument, d, made);
        }
    }

    private void makeObject() {
        for (int f = 0; f < FIELDS; f++) {
            heap[objectCount * FIELDS + f] = NULL_REFERENCE;
        }
        objectCount++;
    }

    private void stepGet(int top, int d, int s, int f) {
        int source = frames[top + s];
        if (source == NULL_REFERENCE) {
            machineStatus = TRAP_DEREF;
            return;
        }
        int value = heap[source * FIELDS + f];
        if (value == NULL_REFERENCE && fieldKind[f] == NONNULL) {
            machineStatus = TRAP_NONNULL;
            return;
        }
        frames[top + d] = value;
        frames[top + SLOT_PC]++;
    }

    private void stepPut(int top, int x, int f, int s) {
        int holder = frames[top + x];
        int value = frames[top + s];
        if (holder == NULL_REFERENCE) {
            machineStatus = TRAP_DEREF;
        } else if (value == NULL_REFERENCE && fieldKind[f] == NONNULL) {
            machineStatus = TRAP_NONNULL;
        } else {
            heap[holder * FIELDS + f] = value;
            frames[top + SLOT_PC]++;
        }
    }

    // ---- Queries ----

    public int info(int k) {
        if (within(k, 0, 3)) {
            return fieldKind[k];
        }
        if (within(k, 4, 6)) {
            return paramNullness[k - 3];
        }
        if (within(k, 7, 9)) {
            return paramInit[k - 6];
        }
        if (within(k, 10, 13)) {
            return length[k - 10];
        }
        switch (k) {
            case 14:
                return selected;
            case 15:
                return checkerStatus;
            case 16:
                return machineStatus;
            case 17:
                return objectCount;
            case 18:
                return outputCount;
            case 19:
                return frameCount;
            default:
                return NONE;
        }
    }

    public int code(int block, int pc, int part) {
        if (!within(block, 0, BLOCKS - 1)
                || !within(pc, 0, length[block] - 1)
                || !within(part, 0, PARTS - 1)) {
            return NONE;
        }
        return program[codeAt(block, pc) + part];
    }

    public int frame(int fr, int slot) {
        if (!within(fr, 0, frameCount - 1) || !within(slot, 0, SLOTS - 1)) {
            return NONE;
        }
        return frames[fr * SLOTS + slot];
    }

    public int field(int o, int f) {
        if (!within(o, 0, objectCount - 1) || !within(f, 0, FIELDS - 1)) {
            return NONE;
        }
        return heap[o * FIELDS + f];
    }

    public int out(int i) {
        return within(i, 0, outputCount - 1) ? outputs[i] : NONE;
    }

    // ---- Helpers ----

    private static int clamp(int value, int least, int most) {
        if (value < least) {
            return least;
        }
        return value > most ? most : value;
    }

    private static boolean within(int value, int least, int most) {
        return value >= least && value <= most;
    }

    private static int codeAt(int block, int pc) {
        return (block * MOST_CODE + pc) * PARTS;
    }

    private static int stateAt(int block, int point) {
        return (block * MOST_POINTS + point) * LOCALS;
    }

    private static int nullnessOf(int triple) {
        return triple & NULLNESS_BITS;
    }

    private static int initOf(int triple) {
        return (triple & INIT_BITS) / INIT_UNIT;
    }

    private static boolean knows(int triple, int f) {
        return (triple & (KNOWN_UNIT << f)) != 0;
    }
}
