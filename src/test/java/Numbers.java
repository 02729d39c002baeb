// Made-up numbers, the same at every run of a test, so that what it finds can be found again.
final class Numbers {
    private long seed;

    Numbers(long seed) {
        this.seed = seed;
    }

    int below(int bound) {
        seed = seed * 6364136223846793005L + 1442695040888963407L;
        return (int) ((seed >>> 33) % bound);
    }
}
