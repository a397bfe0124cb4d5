/** Numbers drawn from a seed, the same ones always. */
final class Draws {
    private long seed;

    Draws(long seed) {
        this.seed = seed * 0x9E3779B97F4A7C15L + 0x1234567;
    }

    int below(int n) {
        seed ^= seed << 13;
        seed ^= seed >>> 7;
        seed ^= seed << 17;
        return (int) Math.floorMod(seed >>> 20, (long) n);
    }

    @SafeVarargs
    final <T> T oneOf(T... all) {
        return all[below(all.length)];
    }
}
