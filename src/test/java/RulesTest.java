// The rules of the section "The checker": which error is found at a point, and which one is reported.
public final class RulesTest {
    private static final int NN = NullnessFlow.NONNULL;
    private static final int MAYBE = NullnessFlow.NULLABLE;
    private static final int COMMITTED = NullnessFlow.COMMITTED;
    private static final int FREE = NullnessFlow.FREE;
    private static final int UNCLASSIFIED = NullnessFlow.UNCLASSIFIED;

    private static final Expect EXPECT = new Expect();

    public static void main(String[] args) {
        SixValues.asNamed(EXPECT);
        onlyReached();
        firstRule();
        thisRule();
        newRules();
        getRules();
        putRules();
        incomplete();
        endNotReached();
        mainHasNoEndRule();
        leastBlock();
        leastPoint();
        accepted();
        EXPECT.end();
    }

    private static void answers(String what, Subject x, int error, int where) {
        EXPECT.same(what + ": check", x.check(), error);
        EXPECT.same(what + ": errorWhere", x.errorWhere(), where);
    }

    private static void accepted(String what, Subject x) {
        answers(what, x, NullnessFlow.OK, -1);
    }

    private static void onlyReached() {
        EXPECT.sentence("RULES are examined at each reached point p < len");
        accepted("behind RET", new Subject().ret().get(0, 0, 0));
        accepted("behind JMP", new Subject().jump(2).get(0, 0, 0).show(0));
        accepted("behind a jump to END", new Subject().jump(32).get(0, 0, 0));
        accepted("the null way of what is not null", new Subject().make(0, 1, 1).ifNull(0, 3).ret().get(2, 3, 0));
        accepted("the null way of what is not null", new Subject().make(0, 1, 1).ifNonNull(0, 3).get(2, 3, 0));
        accepted("assigning this where it is not reached", new Subject().in(2).ret().nil(0));
        answers("a loop brings null", new Subject().make(0, 1, 1).get(1, 0, 0).nil(0).jump(1),
                NullnessFlow.ERR_DEREF, 1);
        answers("reached by a backward jump alone", new Subject().jump(3).get(0, 0, 0).ret().jump(1),
                NullnessFlow.ERR_DEREF, 1);
        answers("the last point of a full block", new Subject().pad(31).get(0, 0, 0), NullnessFlow.ERR_DEREF, 31);
    }

    private static void firstRule() {
        EXPECT.sentence("the first rule that holds is the error at that point.");
        answers("THIS before NULLARG", new Subject().param(2, NN, FREE).in(1).make(0, 2, 1), NullnessFlow.ERR_THIS, 64);
        answers("THIS before INITARG", new Subject().param(2, MAYBE, FREE).in(1).make(0, 2, 1),
                NullnessFlow.ERR_THIS, 64);
        answers("THIS before DEREF", new Subject().in(1).get(0, 1, 0), NullnessFlow.ERR_THIS, 64);
        answers("THIS before UNINIT", new Subject().nonNullField(0).in(1).get(0, 0, 0), NullnessFlow.ERR_THIS, 64);
        answers("NULLARG before INITARG", new Subject().param(2, NN, FREE).make(0, 2, 1), NullnessFlow.ERR_NULLARG, 0);
        answers("DEREF before UNINIT", new Subject().nonNullField(1).param(1, MAYBE, FREE).in(1).get(2, 1, 1),
                NullnessFlow.ERR_DEREF, 64);
        answers("DEREF before NULLSTORE", new Subject().nonNullField(1).in(1).put(1, 1, 2), NullnessFlow.ERR_DEREF, 64);
        answers("DEREF before ESCAPE", new Subject().in(1).put(1, 1, 0), NullnessFlow.ERR_DEREF, 64);
        answers("NULLSTORE before ESCAPE", SixValues.write(new Subject().nonNullField(1), 0).put(5, 1, 3),
                NullnessFlow.ERR_NULLSTORE, 64 + SixValues.POINT);
    }

    // Every op in every block, with its first operand 0 and not 0.
    private static void thisRule() {
        EXPECT.sentence("ERR_THIS (1): block >= 1, op is NULL, MOVE, NEW or GET, and d == 0.");
        for (int block = 0; block < 4; block++) {
            for (int op = 0; op <= 9; op++) {
                boolean assigns = op <= NullnessFlow.GET;
                for (int d = 0; d < 8; d++) {
                    // In MAIN local 0 must first hold an object, so that GET and PUT have no other error.
                    Subject x = new Subject().make(0, 2, 7).in(block);
                    int point = x.info(10 + block);
                    int b = op == NullnessFlow.NEW ? 2 : 0;
                    x.emit(op, op == NullnessFlow.PUT ? 0 : d, b, op == NullnessFlow.NEW ? 6 : 0);
                    boolean due = block >= 1 && assigns && d == 0;
                    answers("block " + block + ", op " + op + ", a " + d, x, due ? NullnessFlow.ERR_THIS : 0,
                            due ? 64 * block + point : -1);
                }
            }
            if (block > 0) {
                answers("this to itself", new Subject().in(block).move(0, 0), NullnessFlow.ERR_THIS, 64 * block);
            }
        }
    }

    private static void newRules() {
        EXPECT.sentence("NEW: ERR_NULLARG (2): k's parameter is NONNULL and S(s) is NULLABLE. ERR_INITARG (3): k's"
                + " parameter init is COMMITTED or FREE, and the init of S(s) differs from it.");
        for (int value = 0; value < SixValues.COUNT; value++) {
            for (int nullness = 0; nullness < 2; nullness++) {
                for (int init = 0; init < 3; init++) {
                    Subject x = SixValues.write(new Subject(), 0).param(2, nullness, init).make(7, 2, value);
                    int due = NullnessFlow.OK;
                    if (nullness == NN && SixValues.isNullable(value)) {
                        due = NullnessFlow.ERR_NULLARG;
                    } else if (init != UNCLASSIFIED && SixValues.init(value) != init) {
                        due = NullnessFlow.ERR_INITARG;
                    }
                    atPoint("value " + value + " to (" + nullness + ", " + init + ")", x, SixValues.POINT, due);
                }
            }
        }
        // It is the parameter of the constructor that is called that counts.
        for (int k = 1; k <= 3; k++) {
            for (int declared = 1; declared <= 3; declared++) {
                Subject x = new Subject().param(declared, NN, COMMITTED).make(0, k, 1);
                answers("null to " + k, x, k == declared ? NullnessFlow.ERR_NULLARG : 0, k == declared ? 0 : -1);
            }
        }
    }

    // Whatever has an error at its end for being incomplete is kept from its end.
    private static void atPoint(String what, Subject x, int point, int due) {
        int stop = x.info(11);
        x.in(1).jump(stop);
        answers(what, x, due, due == NullnessFlow.OK ? -1 : 64 + point);
    }

    private static void getRules() {
        EXPECT.sentence("GET: ERR_DEREF (4): S(s) is NULLABLE. ERR_UNINIT (5): f is NONNULL, S(s) is not COMMITTED,"
                + " and f is not in F of S(s).");
        for (int f = 0; f < 4; f++) {
            for (int value = 0; value < SixValues.COUNT; value++) {
                getRule(f, value, false);
                if (!SixValues.isNullable(value)) {
                    getRule(f, value, true);
                }
            }
        }
    }

    // The field got is the only NONNULL one, then the only NULLABLE one but for what SixValues needs.
    private static void getRule(int f, int value, boolean known) {
        int needed = (f + 1) % 4;
        for (int kind = 0; kind < 2; kind++) {
            Subject x = new Subject();
            for (int other = 0; other < 4; other++) {
                boolean nonNull = other == f ? kind == NN : kind == MAYBE && other != needed;
                x.declareField(other, nonNull ? NN : MAYBE);
            }
            SixValues.write(x, needed);
            int point = SixValues.POINT;
            if (known) {
                x.put(value, f, SixValues.COMMITTED_OBJECT);
                point++;
            }
            x.get(SixValues.SPARE, value, f);
            int due = NullnessFlow.OK;
            if (SixValues.isNullable(value)) {
                due = NullnessFlow.ERR_DEREF;
            } else if (kind == NN && SixValues.init(value) != COMMITTED && !known) {
                due = NullnessFlow.ERR_UNINIT;
            }
            atPoint("field " + f + " of kind " + kind + " of value " + value + ", known " + known, x, point, due);
        }
    }

    private static void putRules() {
        EXPECT.sentence("PUT: ERR_DEREF (4): S(x) is NULLABLE. ERR_NULLSTORE (6): f is NONNULL and S(s) is NULLABLE."
                + " ERR_ESCAPE (7): S(x) is not FREE and S(s) is not COMMITTED.");
        for (int f = 0; f < 4; f++) {
            for (int kind = 0; kind < 2; kind++) {
                for (int holder = 0; holder < SixValues.COUNT; holder++) {
                    for (int value = 0; value < SixValues.COUNT; value++) {
                        putRule(f, kind, holder, value);
                    }
                }
            }
        }
    }

    private static void putRule(int f, int kind, int holder, int value) {
        Subject x = new Subject();
        x.declareField(f, kind);
        SixValues.write(x, (f + 1) % 4).put(holder, f, value);
        int due = NullnessFlow.OK;
        if (SixValues.isNullable(holder)) {
            due = NullnessFlow.ERR_DEREF;
        } else if (kind == NN && SixValues.isNullable(value)) {
            due = NullnessFlow.ERR_NULLSTORE;
        } else if (SixValues.init(holder) != FREE && SixValues.init(value) != COMMITTED) {
            due = NullnessFlow.ERR_ESCAPE;
        }
        atPoint("value " + value + " into field " + f + " of kind " + kind + " of value " + holder, x,
                SixValues.POINT, due);
    }

    // The fields are NONNULL by one mask and put by another; the other constructors do not reach their END.
    private static Subject completing(int block, int nonNull, int put) {
        Subject x = new Subject();
        for (int k = 1; k <= 3; k++) {
            if (k != block) {
                x.in(k).jump(0);
            }
        }
        x.in(block);
        for (int f = 0; f < 4; f++) {
            if ((nonNull >> f & 1) == 1) {
                x.nonNullField(f);
            }
            if ((put >> f & 1) == 1) {
                x.put(0, f, 0);
            }
        }
        return x;
    }

    private static void incomplete() {
        EXPECT.sentence("ERR_INCOMPLETE (8) if some NONNULL field is missing from F of local 0.");
        for (int block = 1; block < 4; block++) {
            for (int nonNull = 0; nonNull < 16; nonNull++) {
                for (int put = 0; put < 16; put++) {
                    boolean missing = (nonNull & ~put) != 0;
                    answers("block " + block + ", NONNULL " + nonNull + ", put " + put,
                            completing(block, nonNull, put), missing ? NullnessFlow.ERR_INCOMPLETE : 0,
                            missing ? 64 * block + Integer.bitCount(put) : -1);
                }
            }
        }
        answers("put into a copy of this", completing(1, 2, 0).move(2, 0).put(2, 1, 0),
                NullnessFlow.ERR_INCOMPLETE, 66);
        answers("put on one way only", completing(1, 2, 0).ifNull(1, 2).put(0, 1, 0), NullnessFlow.ERR_INCOMPLETE, 66);
        answers("put on the other way only", completing(1, 2, 0).ifNull(1, 2).ret().put(0, 1, 0),
                NullnessFlow.ERR_INCOMPLETE, 67);
        answers("a jump far beyond len", completing(1, 2, 0).ifNull(1, 32).put(0, 1, 0),
                NullnessFlow.ERR_INCOMPLETE, 66);
        accepted("put on both ways", completing(1, 2, 0).ifNull(1, 3).put(0, 1, 0).ret().put(0, 1, 0));
        answers("the end of a full block", completing(1, 2, 0).pad(32), NullnessFlow.ERR_INCOMPLETE, 96);
    }

    private static void endNotReached() {
        EXPECT.sentence("At END of blocks 1..3, if END is reached");
        for (int block = 1; block < 4; block++) {
            accepted("a jump to itself", completing(block, 15, 0).jump(0));
            accepted("a loop over a full block", completing(block, 15, 0).pad(31).jump(0));
            accepted("END behind an endless loop", completing(block, 15, 0).jump(0).ret());
            answers("a way out of the loop", completing(block, 8, 0).ifNull(1, 2).jump(0), NullnessFlow.ERR_INCOMPLETE,
                    64 * block + 2);
        }
    }

    private static void mainHasNoEndRule() {
        EXPECT.sentence("At END of blocks 1..3");
        accepted("END of MAIN, empty", completing(0, 15, 0).in(0));
        accepted("END of MAIN", completing(0, 15, 0).in(0).nil(0));
        accepted("END of MAIN by RET", completing(0, 15, 0).in(0).ret());
    }

    private static void leastBlock() {
        EXPECT.sentence("The REPORTED error is the one at the least block, then the least point.");
        Subject x = new Subject().nonNullField(0);
        answers("constructor 1's end", x, NullnessFlow.ERR_INCOMPLETE, 64);
        x.in(1).put(0, 0, 0);
        answers("constructor 2's end", x, NullnessFlow.ERR_INCOMPLETE, 128);
        x.in(2).put(0, 0, 0);
        answers("constructor 3's end", x, NullnessFlow.ERR_INCOMPLETE, 192);
        x.in(3).put(0, 0, 1);
        answers("constructor 3's null store", x, NullnessFlow.ERR_NULLSTORE, 192);
        x.in(2).nil(0);
        answers("constructor 2's this", x, NullnessFlow.ERR_THIS, 129);
        x.in(1).show(0).get(2, 3, 0);
        answers("constructor 1's get", x, NullnessFlow.ERR_DEREF, 66);
        x.in(0).show(0).put(2, 0, 2).get(2, 2, 0);
        answers("MAIN's put", x, NullnessFlow.ERR_DEREF, 1);
    }

    private static void leastPoint() {
        EXPECT.sentence("then the least point.");
        for (int first = 0; first < 31; first++) {
            Subject x = new Subject().in(1).pad(first).nil(0).pad(30 - first).get(2, 3, 0);
            answers("errors at " + first + " and 31", x, NullnessFlow.ERR_THIS, 64 + first);
        }
        answers("the last point before END", completing(1, 1, 0).pad(31).nil(0), NullnessFlow.ERR_THIS, 64 + 31);
        // The point that control comes to first is not the least one.
        answers("by number, not by the way", new Subject().jump(3).get(0, 1, 0).ret().put(0, 0, 1).jump(1),
                NullnessFlow.ERR_DEREF, 1);
    }

    private static void accepted() {
        EXPECT.sentence("If there is none, the program is ACCEPTED.");
        Subject empty = new Subject();
        accepted("empty", empty);
        EXPECT.same("empty", empty.info(15), NullnessFlow.ACCEPTED);
        Subject full = new Subject();
        for (int block = 0; block < 4; block++) {
            full.in(block).pad(32);
        }
        accepted("full", full);
        EXPECT.same("full", full.info(15), NullnessFlow.ACCEPTED);
        accepted("MAIN may assign local 0", new Subject().nil(0).move(0, 1).make(0, 1, 0).get(0, 0, 0));
        accepted("get behind IFNULL", new Subject().in(3).ifNull(1, 2).get(2, 1, 0));
        accepted("get behind IFNONNULL", new Subject().in(3).ifNonNull(1, 2).ret().get(2, 1, 0));
        accepted("what was put into a NULLABLE field",
                new Subject().make(0, 1, 1).put(0, 0, 0).get(1, 0, 0).get(2, 1, 0));
    }
}
