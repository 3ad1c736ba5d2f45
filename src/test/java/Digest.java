/** The document's digest of some ints, for what tests expect of seals. */
final class Digest {
    private Digest() {
    }

    static int of(int... values) {
        long h = 0;
        for (int x : values) {
            h = (h ^ x) * 0x9E3779B97F4A7C15L;
            h = h ^ (h >>> 30);
        }
        return (int) (h >>> 33);
    }
}
