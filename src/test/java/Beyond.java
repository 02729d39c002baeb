import java.util.stream.IntStream;

// Wrong arguments for a range: those next to it, the ends of the ints, and such as come to an index or to a value that
// exists if one multiplies, adds or cuts off bits before one looks whether they are in range.
final class Beyond {
    private static final int[] FAR = {
        Integer.MIN_VALUE, Integer.MIN_VALUE + 1, -(1 << 30), -(1 << 29), -(1 << 16), -256, -33, -32, -12, -8, -4, -1,
        12, 32, 33, 64, 256, 257, 1 << 16, 1 << 28, 1 << 29, 1 << 30, 357913942, Integer.MAX_VALUE - 1,
        Integer.MAX_VALUE};

    private Beyond() { }

    static int[] range(int least, int most) {
        IntStream next = IntStream.of(least - 1, most + 1);
        IntStream far = IntStream.of(FAR).filter(n -> n < least || n > most);
        return IntStream.concat(next, far).distinct().toArray();
    }

    static int[] anything() {
        return FAR.clone();
    }
}
