// The section "The checker" up to its rules: triples, joins, entries, edges and loops, seen through state().
public final class SolutionTest {
    private static final int NN = NullnessFlow.NONNULL;
    private static final int MAYBE = NullnessFlow.NULLABLE;
    private static final int COMMITTED = NullnessFlow.COMMITTED;
    private static final int FREE = NullnessFlow.FREE;
    private static final int UNCLASSIFIED = NullnessFlow.UNCLASSIFIED;
    private static final int NULLV = triple(MAYBE, COMMITTED, 0);
    private static final int THIS = triple(NN, FREE, 0);

    private static final Expect EXPECT = new Expect();

    public static void main(String[] args) {
        SixValues.asNamed(EXPECT);
        fieldBits();
        joins();
        unreachedIsBelowAll();
        entryOfMain();
        entryOfConstructors();
        onlyReachedSend();
        readsBefore();
        nullEdge();
        moveEdge();
        newDrops();
        newMakes();
        getEdge();
        putAdds();
        putRemoves();
        nullTest();
        nonNullTest();
        testsWithOneTarget();
        jumpEdges();
        endSendsNothing();
        entryIsBelowPointZero();
        loops();
        longLoop();
        lapsBack();
        lapsForward();
        EXPECT.end();
    }

    private static int triple(int n, int i, int fields) {
        return n + 2 * i + 8 * fields;
    }

    private static Subject checked(Subject x) {
        x.check();
        return x;
    }

    private static void locals(String what, Subject x, int block, int pc, int... due) {
        for (int local = 0; local < due.length; local++) {
            String call = what + ": state(" + block + ", " + pc + ", " + local + ")";
            EXPECT.same(call, x.state(block, pc, local), due[local]);
        }
    }

    private static void fieldBits() {
        EXPECT.sentence("F is a set of fields (field f is bit 1 << f) whose value in this local's object is known to"
                + " be not null.");
        for (int f = 0; f < 4; f++) {
            Subject x = checked(new Subject().in(1).put(0, f, 0).put(0, f, 0).put(0, f, 7));
            EXPECT.same("field " + f, x.state(1, 1, 0), triple(NN, FREE, 1 << f));
            EXPECT.same("field " + f + " put again", x.state(1, 2, 0), triple(NN, FREE, 1 << f));
            EXPECT.same("field " + f + " taken away", x.state(1, 3, 0), THIS);
        }
        Subject all = checked(new Subject().in(1).put(0, 0, 0).put(0, 1, 0).put(0, 2, 0).put(0, 3, 0));
        EXPECT.same("all fields", all.state(1, 4, 0), triple(NN, FREE, 15));
    }

    // Every triple with every triple: the local holds the first on one way and the second on the other.
    private static void joins() {
        EXPECT.sentence("JOIN, local by local: the greater n; i kept if equal, else UNCLASSIFIED; the intersection of"
                + " F.");
        for (int one = 0; one < SixValues.COUNT; one++) {
            for (int two = 0; two < SixValues.COUNT; two++) {
                for (int fields = 0; fields < 256; fields++) {
                    join(one, fields >> 4, two, fields & 15);
                }
            }
        }
    }

    private static void join(int one, int oneFields, int two, int twoFields) {
        int way = SixValues.POINT + 1 + 1 + Integer.bitCount(oneFields) + 1;
        int meet = way + 1 + Integer.bitCount(twoFields);
        Subject x = SixValues.write(new Subject(), 0).ifNull(7, way).move(6, one);
        known(x, oneFields).jump(meet).move(6, two);
        known(x, twoFields).check();
        int n = Math.max(SixValues.nullness(one), SixValues.nullness(two));
        int i = SixValues.init(one) == SixValues.init(two) ? SixValues.init(one) : UNCLASSIFIED;
        String what = "value " + one + " with " + oneFields + " and value " + two + " with " + twoFields;
        EXPECT.same(what, x.state(1, meet, 6), triple(n, i, oneFields & twoFields));
    }

    private static Subject known(Subject x, int fields) {
        for (int f = 0; f < 4; f++) {
            if ((fields >> f & 1) == 1) {
                x.put(6, f, 0);
            }
        }
        return x;
    }

    private static void unreachedIsBelowAll() {
        EXPECT.sentence("Each point 0..len of a block holds UNREACHED (below all states) or a state.");
        // Local 3 is null at point 2, which is not reached and would send it to point 3.
        Subject x = checked(new Subject().make(3, 1, 7).jump(3).nil(3).show(3));
        EXPECT.same("point 0", x.state(0, 0, 3), NULLV);
        EXPECT.same("not reached", x.state(0, 2, 3), -1);
        EXPECT.same("reached from one side only", x.state(0, 3, 3), triple(NN, COMMITTED, 0));
        EXPECT.same("END", x.state(0, 4, 3), triple(NN, COMMITTED, 0));
        Subject none = checked(new Subject().jump(0).show(0));
        for (int local = 0; local < 8; local++) {
            EXPECT.same("point 0, local " + local, none.state(0, 0, local), NULLV);
            EXPECT.same("point 1, local " + local, none.state(0, 1, local), -1);
            EXPECT.same("END, local " + local, none.state(0, 2, local), -1);
        }
    }

    private static void entryOfMain() {
        EXPECT.sentence("ENTRY (point 0): in MAIN every local is NULLV.");
        for (int len : new int[] {0, 1, 32}) {
            Subject x = checked(new Subject().pad(len));
            locals("len " + len, x, 0, 0, NULLV, NULLV, NULLV, NULLV, NULLV, NULLV, NULLV, NULLV);
        }
    }

    private static void entryOfConstructors() {
        EXPECT.sentence("In constructor k: local 0 is (NONNULL, FREE, {}); local 1 is (k's parameter nullness, k's"
                + " parameter init, {}); locals 2..7 are NULLV.");
        for (int k = 1; k <= 3; k++) {
            for (int nullness = 0; nullness < 2; nullness++) {
                for (int init = 0; init < 3; init++) {
                    for (int len : new int[] {0, 1, 32}) {
                        Subject x = checked(new Subject().param(k, nullness, init).in(k).pad(len));
                        int given = triple(nullness, init, 0);
                        locals("entry", x, k, 0, THIS, given, NULLV, NULLV, NULLV, NULLV, NULLV, NULLV);
                        locals("another's entry", x, k % 3 + 1, 0, THIS, NULLV, NULLV);
                    }
                }
            }
        }
    }

    private static void onlyReachedSend() {
        EXPECT.sentence("EDGES leave each reached point p < len with state S.");
        // From the points behind RET edges would lead to the points before it.
        Subject x = checked(new Subject().make(2, 1, 7).show(2).ret().nil(2).jump(1).ifNull(7, 1).ret());
        EXPECT.same("before RET", x.state(0, 1, 2), triple(NN, COMMITTED, 0));
        for (int point = 3; point <= 6; point++) {
            EXPECT.same("behind RET", x.state(0, point, 2), -1);
        }
        Subject last = checked(new Subject().jump(31).pad(30).make(2, 1, 7));
        EXPECT.same("before the last point", last.state(0, 30, 2), -1);
        EXPECT.same("from the last point", last.state(0, 32, 2), triple(NN, COMMITTED, 0));
    }

    // Where an op writes what it reads, or makes a change that could reach what it still has to read.
    private static void readsBefore() {
        EXPECT.sentence("(all others are copied) and reads S as it was before any change");
        Subject x = new Subject().param(1, NN, UNCLASSIFIED).in(1).put(1, 2, 0).move(1, 1).get(1, 1, 2).make(1, 2, 1);
        x.param(2, NN, UNCLASSIFIED).check();
        EXPECT.same("MOVE to itself", x.state(1, 2, 1), triple(NN, UNCLASSIFIED, 4));
        EXPECT.same("GET into its own source", x.state(1, 3, 1), triple(NN, UNCLASSIFIED, 0));
        EXPECT.same("NEW into its own argument", x.state(1, 4, 1), triple(NN, UNCLASSIFIED, 0));
        Subject put = checked(new Subject().in(1).put(0, 0, 0).put(7, 0, 0).put(7, 0, 7));
        EXPECT.same("PUT of this into itself", put.state(1, 1, 0), triple(NN, FREE, 1));
        EXPECT.same("PUT into null", put.state(1, 2, 7), triple(MAYBE, COMMITTED, 1));
        EXPECT.same("PUT of null into itself", put.state(1, 3, 7), NULLV);
        EXPECT.same("PUT of null into itself, this", put.state(1, 3, 0), THIS);
        Subject others = checked(new Subject().make(2, 1, 7).put(2, 3, 2).nil(5).move(6, 5).show(2).ret());
        for (int point = 2; point <= 6; point++) {
            EXPECT.same("copied to point " + point, others.state(0, point, 2), triple(NN, COMMITTED, 8));
        }
    }

    private static void nullEdge() {
        EXPECT.sentence("NULL: d := NULLV, to p+1.");
        for (int d = 0; d < 8; d++) {
            Subject x = new Subject().in(1).put(0, 3, 0);
            for (int local = 1; local < 8; local++) {
                x.move(local, 0);
            }
            x.nil(d).check();
            for (int local = 0; local < 8; local++) {
                int due = local == d ? NULLV : triple(NN, FREE, 8);
                EXPECT.same("NULL " + d + ", local " + local, x.state(1, 9, local), due);
            }
        }
    }

    private static void moveEdge() {
        EXPECT.sentence("MOVE: d := S(s), to p+1.");
        for (int s = 0; s < SixValues.COUNT; s++) {
            for (int d = 0; d < 8; d++) {
                Subject x = SixValues.write(new Subject(), 0).put(s, 0, 0).put(s, 3, 0).move(d, s);
                x.check();
                int due = triple(SixValues.nullness(s), SixValues.init(s), 9);
                EXPECT.same("MOVE " + d + ", " + s, x.state(1, SixValues.POINT + 3, d), due);
                EXPECT.same("MOVE " + d + ", " + s + ": its source", x.state(1, SixValues.POINT + 3, s), due);
            }
        }
    }

    // Every local knows all four fields; then a NEW is made, with each set of fields NONNULL.
    private static void newDrops() {
        EXPECT.sentence("NEW: every local drops the NULLABLE fields from its F");
        for (int nonNull = 0; nonNull < 16; nonNull++) {
            Subject x = new Subject();
            for (int f = 0; f < 4; f++) {
                x.declareField(f, (nonNull >> f & 1) == 1 ? NN : MAYBE);
            }
            x.in(1).put(0, 0, 0).put(0, 1, 0).put(0, 2, 0).put(0, 3, 0);
            for (int local = 1; local < 8; local++) {
                x.move(local, 0);
            }
            x.make(5, 2, 6).check();
            for (int local = 0; local < 8; local++) {
                EXPECT.same("before NEW", x.state(1, 11, local), triple(NN, FREE, 15));
                int due = local == 5 ? THIS : triple(NN, FREE, nonNull);
                EXPECT.same("NONNULL " + nonNull + ", local " + local, x.state(1, 12, local), due);
            }
        }
    }

    private static void newMakes() {
        EXPECT.sentence("then d := (NONNULL, i of S(s), {}); to p+1.");
        for (int s = 0; s < SixValues.COUNT; s++) {
            for (int d = 0; d < 8; d++) {
                Subject x = SixValues.write(new Subject().nonNullField(3), 0).put(s, 3, 5).put(s, 0, 5).make(d, 3, s);
                x.check();
                int due = triple(NN, SixValues.init(s), 0);
                EXPECT.same("NEW " + d + " with value " + s, x.state(1, SixValues.POINT + 3, d), due);
            }
        }
    }

    private static void getEdge() {
        EXPECT.sentence("GET: d := (n, i, {}), to p+1, where n = NONNULL if f is NONNULL or f is in F of S(s), else"
                + " NULLABLE; and i = COMMITTED if S(s) is COMMITTED, else UNCLASSIFIED.");
        for (int s = 0; s < SixValues.COUNT; s++) {
            for (int f = 0; f < 4; f++) {
                for (int fields = 0; fields < 16; fields++) {
                    get(s, f, fields, MAYBE);
                    get(s, f, fields, NN);
                }
            }
        }
    }

    private static void get(int s, int f, int fields, int kind) {
        Subject x = new Subject();
        x.declareField(f, kind);
        SixValues.write(x, (f + 1) % 4).move(6, s);
        known(x, fields).get(7, 6, f).get(6, 6, f).check();
        int n = kind == NN || (fields >> f & 1) == 1 ? NN : MAYBE;
        int i = SixValues.init(s) == COMMITTED ? COMMITTED : UNCLASSIFIED;
        int point = SixValues.POINT + 1 + Integer.bitCount(fields);
        String what = "field " + f + " of kind " + kind + " of value " + s + " with " + fields;
        EXPECT.same(what, x.state(1, point + 1, 7), triple(n, i, 0));
        EXPECT.same(what + ", into its source", x.state(1, point + 2, 6), triple(n, i, 0));
    }

    private static void putAdds() {
        EXPECT.sentence("PUT: if S(s) is NONNULL, f is added to F of x");
        for (int f = 0; f < 4; f++) {
            for (int holder = 0; holder < SixValues.COUNT; holder++) {
                for (int s : new int[] {0, 4, 5}) {
                    Subject x = SixValues.write(new Subject(), 0).put(holder, f, s);
                    x.check();
                    for (int local = 0; local < SixValues.COUNT; local++) {
                        int fields = local == holder ? 1 << f : 0;
                        EXPECT.same("field " + f + " of value " + holder + " := value " + s + ", value " + local,
                                x.state(1, SixValues.POINT + 1, local),
                                triple(SixValues.nullness(local), SixValues.init(local), fields));
                    }
                }
            }
        }
    }

    // Every local knows all four fields but 7, which is null; what may be null is put into each of them.
    private static void putRemoves() {
        EXPECT.sentence("else f is removed from F of every local; to p+1.");
        for (int f = 0; f < 4; f++) {
            for (int kind = 0; kind < 2; kind++) {
                for (int holder = 0; holder < 8; holder++) {
                    Subject x = new Subject();
                    x.declareField(f, kind);
                    x.in(1).put(0, 0, 0).put(0, 1, 0).put(0, 2, 0).put(0, 3, 0);
                    for (int local = 1; local < 7; local++) {
                        x.move(local, 0);
                    }
                    x.put(holder, f, 7).check();
                    for (int local = 0; local < 7; local++) {
                        EXPECT.same("field " + f + " of local " + holder + " := null, local " + local,
                                x.state(1, 11, local), triple(NN, FREE, 15 & ~(1 << f)));
                    }
                    EXPECT.same("the null itself", x.state(1, 11, 7), NULLV);
                }
            }
        }
    }

    // The test stands at POINT + 2; one of its ways is at POINT + 3 and the other at POINT + 5.
    private static Subject tested(int s, boolean forNull) {
        Subject x = SixValues.write(new Subject(), 0).put(s, 1, 0).put(s, 2, 0);
        int t = SixValues.POINT + 5;
        return forNull ? x.ifNull(s, t).show(0).ret().show(0) : x.ifNonNull(s, t).show(0).ret().show(0);
    }

    private static void ways(String what, Subject x, int s, int nullWay, int otherWay) {
        int known = triple(NN, SixValues.init(s), 6);
        EXPECT.same(what + ", not null", x.state(1, otherWay, s), known);
        EXPECT.same(what + ", null", x.state(1, nullWay, s), SixValues.isNullable(s) ? NULLV : -1);
        int another = (s + 1) % SixValues.COUNT;
        int copied = triple(SixValues.nullness(another), SixValues.init(another), 0);
        EXPECT.same(what + ", not null: another", x.state(1, otherWay, another), copied);
        EXPECT.same(what + ", null: another", x.state(1, nullWay, another), SixValues.isNullable(s) ? copied : -1);
    }

    private static void nullTest() {
        EXPECT.sentence("IFNULL: to p+1 with s := (NONNULL, i of S(s), F of S(s)); and, only if S(s) is NULLABLE, to t"
                + " with s := NULLV.");
        for (int s = 0; s < SixValues.COUNT; s++) {
            Subject x = checked(tested(s, true));
            ways("IFNULL of value " + s, x, s, SixValues.POINT + 5, SixValues.POINT + 3);
        }
    }

    private static void nonNullTest() {
        EXPECT.sentence("IFNONNULL: to t with s := (NONNULL, i of S(s), F of S(s)); and, only if S(s) is NULLABLE, to"
                + " p+1 with s := NULLV.");
        for (int s = 0; s < SixValues.COUNT; s++) {
            Subject x = checked(tested(s, false));
            ways("IFNONNULL of value " + s, x, s, SixValues.POINT + 3, SixValues.POINT + 5);
        }
    }

    // Where both ways lead to one point it holds the join of both.
    private static void testsWithOneTarget() {
        EXPECT.sentence("So each point holds the join of all that reaches it");
        for (int target : new int[] {2, 3, 32}) {
            int len = Math.min(target, 3);
            Subject x = new Subject().param(1, MAYBE, FREE).in(1).put(1, 0, 0).ifNull(1, target).pad(len - 2);
            x.check();
            EXPECT.same("IFNULL to " + target, x.state(1, len, 1), triple(MAYBE, UNCLASSIFIED, 0));
            Subject y = new Subject().param(1, MAYBE, FREE).in(1).put(1, 0, 0).ifNonNull(1, target).pad(len - 2);
            y.check();
            EXPECT.same("IFNONNULL to " + target, y.state(1, len, 1), triple(MAYBE, UNCLASSIFIED, 0));
        }
        Subject itself = checked(new Subject().param(1, MAYBE, FREE).in(1).ifNull(1, 0));
        EXPECT.same("a test that leads to itself", itself.state(1, 0, 1), triple(MAYBE, UNCLASSIFIED, 0));
        EXPECT.same("behind it", itself.state(1, 1, 1), triple(NN, UNCLASSIFIED, 0));
    }

    private static void jumpEdges() {
        EXPECT.sentence("JMP: S to t. RET: S to END. OUT: S to p+1.");
        Subject x = checked(new Subject().make(3, 1, 4).put(3, 0, 3).show(3).jump(5).nil(3).ret().nil(3));
        int kept = triple(NN, COMMITTED, 1);
        EXPECT.same("OUT", x.state(0, 3, 3), kept);
        EXPECT.same("behind JMP", x.state(0, 4, 3), -1);
        EXPECT.same("JMP", x.state(0, 5, 3), kept);
        EXPECT.same("behind RET", x.state(0, 6, 3), -1);
        EXPECT.same("RET", x.state(0, 7, 3), kept);
    }

    // END's number is also that of a point in another block, and of the first point of the next block's states.
    private static void endSendsNothing() {
        EXPECT.sentence("END sends nothing.");
        for (int len : new int[] {0, 1, 8, 31, 32}) {
            Subject x = new Subject();
            for (int block = 0; block < 4; block++) {
                x.in(block).pad(len);
            }
            x.check();
            locals("MAIN", x, 0, 0, NULLV, NULLV);
            for (int block = 1; block < 4; block++) {
                locals("entry with len " + len, x, block, 0, THIS, NULLV);
            }
        }
    }

    private static void entryIsBelowPointZero() {
        EXPECT.sentence("ENTRY is below point 0");
        Subject x = checked(new Subject().make(0, 1, 0).jump(0));
        EXPECT.same("a loop to point 0 joins with ENTRY", x.state(0, 0, 0), NULLV);
        EXPECT.same("behind it", x.state(0, 1, 0), triple(NN, COMMITTED, 0));
        Subject y = checked(new Subject().param(1, NN, FREE).in(1).put(0, 2, 0).nil(1).move(2, 0).jump(0));
        locals("point 0", y, 1, 0, THIS, triple(MAYBE, UNCLASSIFIED, 0), triple(MAYBE, UNCLASSIFIED, 0), NULLV);
    }

    private static void loops() {
        EXPECT.sentence("with loops carried on until nothing changes.");
        Subject x = checked(new Subject().make(0, 1, 7).move(1, 0).move(2, 0).move(3, 0).show(3)
                .move(3, 2).move(2, 1).move(1, 6).ifNull(5, 4));
        EXPECT.same("null carried through three rounds", x.state(0, 4, 3), NULLV);
        EXPECT.same("null carried through two rounds", x.state(0, 4, 2), NULLV);
        EXPECT.same("what the loop leaves alone", x.state(0, 4, 0), triple(NN, COMMITTED, 0));
        EXPECT.same("before the loop", x.state(0, 3, 2), triple(NN, COMMITTED, 0));
        Subject y = checked(new Subject().in(1).put(0, 0, 0).put(0, 1, 0).get(2, 0, 0).put(0, 0, 3).jump(1));
        EXPECT.same("what the loop takes away", y.state(1, 1, 0), THIS);
        EXPECT.same("what the loop puts back", y.state(1, 2, 0), triple(NN, FREE, 2));
        EXPECT.same("what is got is then not known", y.state(1, 3, 2), triple(MAYBE, UNCLASSIFIED, 0));
        // Here the second round of a sweep forward raises nothing but a point that the null way leads back to.
        Subject back = checked(new Subject().ifNull(6, 5).make(0, 1, 7).move(2, 0).show(2).ifNull(5, 2).nil(0).jump(4));
        EXPECT.same("null carried back by a test", back.state(0, 2, 0), NULLV);
        EXPECT.same("and on from there", back.state(0, 3, 2), NULLV);
    }

    // A full block whose loop runs from its last instructions to its first, two by two, and carries null one local
    // further in each round: whoever goes over the points in order has to go over them some eighty times.
    private static void longLoop() {
        EXPECT.sentence("carried on until nothing changes.");
        Subject x = new Subject().make(1, 1, 0);
        for (int local = 2; local < 8; local++) {
            x.move(local, 1);
        }
        int first = 8;
        x.jump(30);
        for (int pc = first; pc < 32; pc += 2) {
            int turn = (30 - pc) / 2;
            int back = pc == first ? 30 : pc - 2;
            if (turn < 6) {
                x.move(7 - turn, 6 - turn).jump(back);
            } else if (turn == 6) {
                x.nil(1).jump(back);
            } else {
                x.show(0).jump(back);
            }
        }
        x.check();
        for (int local = 1; local < 8; local++) {
            EXPECT.same("before the loop, local " + local, x.state(0, 7, local), triple(NN, COMMITTED, 0));
            EXPECT.same("in the loop, local " + local, x.state(0, 30, local), NULLV);
            EXPECT.same("at the loop's last turn, local " + local, x.state(0, first, local), NULLV);
            EXPECT.same("END, local " + local, x.state(0, 32, local), -1);
        }
    }

    // Seven moves that carry an init state one local further in each lap of the loop that they stand in.
    private static Subject moveOn(Subject x) {
        for (int local = 7; local > 0; local--) {
            x.move(local, local - 1);
        }
        return x;
    }

    private static void moved(String what, Subject x, int moves) {
        int c = triple(MAYBE, UNCLASSIFIED, 0);
        locals(what + ", before the moves", x, 1, moves, THIS, c, c, c, c, c, c, c);
        locals(what + ", behind them", x, 1, moves + 7, THIS, THIS, c, c, c, c, c, c);
        EXPECT.same(what + ", END", x.state(1, 32, 7), -1);
        EXPECT.same(what + ", error", x.errorWhere(), -1);
    }

    // The rest of the block leads back step by step: a checker that goes over the points from the first to the last
    // gets one step further each time, so the seven laps take it some 170 times.
    private static void lapsBack() {
        EXPECT.sentence("loops carried on until nothing changes");
        Subject x = moveOn(new Subject().in(1)).jump(31).jump(0);
        for (int pc = 9; pc < 32; pc++) {
            x.jump(pc - 1);
        }
        x.check();
        moved("back", x, 0);
        for (int pc = 7; pc < 32; pc++) {
            EXPECT.same("on the way back, point " + pc, x.state(1, pc, 7), triple(MAYBE, UNCLASSIFIED, 0));
        }
    }

    // The same for a checker that goes over the points from the last to the first.
    private static void lapsForward() {
        EXPECT.sentence("carried on until nothing changes");
        Subject x = new Subject().in(1);
        for (int pc = 0; pc < 24; pc++) {
            x.jump(pc + 1);
        }
        moveOn(x).jump(0).check();
        moved("forward", x, 24);
        for (int pc = 0; pc < 24; pc++) {
            EXPECT.same("on the way forward, point " + pc, x.state(1, pc, 7), triple(MAYBE, UNCLASSIFIED, 0));
        }
    }
}
