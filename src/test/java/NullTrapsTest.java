// Promise 9's consequence, seen from the other side: programs that trap on null when they are run. The checker must
// reject each of them, and each by another one of its rules or edges. SoundnessTest looks for more of them by chance.
public final class NullTrapsTest {
    private static final int NN = NullnessFlow.NONNULL;
    private static final int MAYBE = NullnessFlow.NULLABLE;
    private static final int COMMITTED = NullnessFlow.COMMITTED;
    private static final int FREE = NullnessFlow.FREE;
    private static final int DEREF = NullnessFlow.TRAP_DEREF;
    private static final int NONNULL = NullnessFlow.TRAP_NONNULL;

    private static final Expect EXPECT = new Expect();

    public static void main(String[] args) {
        EXPECT.sentence("run never answers TRAP_DEREF or TRAP_NONNULL");
        eachRule();
        forgotten();
        joined();
        EXPECT.sentence("this holds also inside constructors and for objects still under construction.");
        underConstruction();
        EXPECT.end();
    }

    private static void rejected(String what, Subject x, int error, int trap) {
        EXPECT.same(what + ": check", x.check(), error);
        EXPECT.same(what + ": run", x.run(1000), trap);
    }

    // Field 0 is NONNULL and field 1 NULLABLE. Constructors 2 and 3 put this into field 0 of this; constructor 1 is
    // left to the test, but MAIN makes an object by constructor 3 in local 0 and gives it to constructor 1.
    private static Subject inConstructor() {
        return new Subject().nonNullField(0).make(0, 3, 7).make(1, 1, 0).in(2).put(0, 0, 0).in(3).put(0, 0, 0).in(1);
    }

    // The same with a constructor 1 that has nothing more to do, and an object of it in local 0 of MAIN.
    private static Subject inMain() {
        return new Subject().nonNullField(0).make(0, 1, 7)
                .in(1).put(0, 0, 0).in(2).put(0, 0, 0).in(3).put(0, 0, 0).in(0);
    }

    private static void eachRule() {
        rejected("this is no longer this", inConstructor().make(2, 2, 7).move(0, 2).put(0, 0, 2).in(0).get(2, 1, 0),
                NullnessFlow.ERR_THIS, NONNULL);
        rejected("null to a NONNULL parameter", inMain().param(2, NN, COMMITTED).make(1, 2, 7),
                NullnessFlow.ERR_NULLARG, NONNULL);
        rejected("GET of null", inMain().get(2, 7, 1), NullnessFlow.ERR_DEREF, DEREF);
        rejected("PUT into null", inMain().put(7, 1, 0), NullnessFlow.ERR_DEREF, DEREF);
        rejected("null into a NONNULL field", inMain().put(0, 0, 7), NullnessFlow.ERR_NULLSTORE, NONNULL);
        rejected("a field never put", inConstructor().in(0).get(2, 1, 0), NullnessFlow.ERR_INCOMPLETE, NONNULL);
        rejected("what a NULLABLE field holds", inMain().get(2, 0, 1).get(3, 2, 1), NullnessFlow.ERR_DEREF, DEREF);
        rejected("the null way of a test", inMain().ifNonNull(7, 3).get(2, 7, 1), NullnessFlow.ERR_DEREF, DEREF);
    }

    // Null put where something was known to be.
    private static void forgotten() {
        rejected("by another name", inMain().put(0, 1, 0).move(2, 0).put(2, 1, 7).get(3, 0, 1).get(4, 3, 1),
                NullnessFlow.ERR_DEREF, DEREF);
        Subject byConstructor = inMain().param(2, NN, COMMITTED).in(2).put(1, 1, 7).in(0);
        rejected("by a constructor", byConstructor.put(0, 1, 0).make(2, 2, 0).get(3, 0, 1).get(4, 3, 1),
                NullnessFlow.ERR_DEREF, DEREF);
        rejected("in a loop", inMain().put(0, 1, 0).get(2, 0, 1).get(3, 2, 1).put(0, 1, 7).jump(2),
                NullnessFlow.ERR_DEREF, DEREF);
    }

    // Local 7 is null, so that the run always takes the way of the null, on which less is known.
    private static void joined() {
        rejected("nullness", inMain().ifNull(7, 3).make(2, 1, 7).get(3, 2, 1), NullnessFlow.ERR_DEREF, DEREF);
        rejected("known fields", inMain().ifNull(7, 3).put(0, 1, 0).get(2, 0, 1).get(3, 2, 1),
                NullnessFlow.ERR_DEREF, DEREF);
        rejected("this with a COMMITTED object",
                inConstructor().move(2, 0).ifNull(7, 3).make(2, 2, 7).get(3, 2, 0).put(0, 0, 0),
                NullnessFlow.ERR_UNINIT, NONNULL);
    }

    private static void underConstruction() {
        rejected("a field of this not yet put", inConstructor().get(2, 0, 0).put(0, 0, 0),
                NullnessFlow.ERR_UNINIT, NONNULL);
        rejected("this through its own field", inConstructor().put(0, 1, 0).get(2, 0, 1).get(3, 2, 0).put(0, 0, 0),
                NullnessFlow.ERR_UNINIT, NONNULL);
        Subject given = inConstructor().make(2, 2, 0).put(0, 0, 0).param(2, NN, COMMITTED).in(2).get(3, 1, 0);
        rejected("this given as COMMITTED", given, NullnessFlow.ERR_INITARG, NONNULL);
        Subject free = inConstructor().make(2, 2, 0).put(0, 0, 0).param(2, NN, FREE).in(2).get(3, 1, 0);
        rejected("this given as FREE", free, NullnessFlow.ERR_UNINIT, NONNULL);
        Subject any = inConstructor().make(2, 2, 0).put(0, 0, 0);
        any.param(2, MAYBE, NullnessFlow.UNCLASSIFIED).in(2).ifNull(1, 3).get(3, 1, 0);
        rejected("this given as UNCLASSIFIED", any, NullnessFlow.ERR_UNINIT, NONNULL);
        rejected("this put into a COMMITTED object",
                inConstructor().param(1, NN, COMMITTED).put(1, 1, 0).get(2, 1, 1).get(3, 2, 0).put(0, 0, 1),
                NullnessFlow.ERR_ESCAPE, NONNULL);
        Subject holder = inConstructor().param(2, NN, FREE).in(2).put(0, 1, 1).in(1);
        rejected("this held by what was made with it",
                holder.make(2, 2, 0).get(3, 2, 1).ifNull(3, 4).get(4, 3, 0).put(0, 0, 0),
                NullnessFlow.ERR_UNINIT, NONNULL);
    }
}
