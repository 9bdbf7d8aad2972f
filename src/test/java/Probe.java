/** Reads N or LIMIT out of an object by least() alone. */
final class Probe {
    /** By N: the least cost of N letters that all weigh 1. */
    private static final long[] COST_OF_ONES =
        {0, 0, 2, 5, 8, 12, 16, 20, 24, 29, 34, 39, 44, 49, 54, 59, 64};

    private Probe() {
    }

    /** Sets the weights and LIMIT. -1 if no N answers so. */
    static int letterCount(TrimCodes codes) {
        Samples.give(codes, Samples.same(1));
        codes.limit(15);
        long cost = codes.least();
        for (int n = 2; n <= 16; n++) {
            if (COST_OF_ONES[n] == cost) {
                return n;
            }
        }
        return -1;
    }

    /** Sets N and the weights. -1 if no LIMIT answers so. */
    static int limit(TrimCodes codes) {
        int[] powers = Samples.powersOfTwo();
        Samples.give(codes, powers);
        for (int bits = 0; bits <= 3; bits++) {
            codes.letters((1 << bits) + 1 - 2);
            if (codes.least() == -1) {
                return bits;
            }
        }
        codes.letters(14);
        long cost = codes.least();
        for (int limit = 4; limit <= 15; limit++) {
            if (Oracle.levels(powers, 16, limit) == cost) {
                return limit;
            }
        }
        return -1;
    }
}
