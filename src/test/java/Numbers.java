/** Numbers as the document tells them, one behind another from a seed on. */
final class Numbers {
    private long last;

    Numbers(long seed) {
        last = seed;
    }

    int next() {
        last = (last * 1103515245L + 12345L) % (1L << 31);
        return (int) (last / 65536);
    }
}
