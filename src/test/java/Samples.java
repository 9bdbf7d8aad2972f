/** Rows of 32 weights, and numbers that look irregular but are the same in every run. */
final class Samples {
    private long state;

    Samples(long seed) {
        state = seed;
    }

    int next() {
        state = state * 6364136223846793005L + 1442695040888963407L;
        return (int) (state >>> 32);
    }

    int below(int bound) {
        return (int) Long.remainderUnsigned(next() & 0xffffffffL, bound);
    }

    /** Weights of 0 to 31 bits, alike or widely apart as the bits ask. */
    int[] row(int bits) {
        int[] row = new int[32];
        for (int i = 0; i < row.length; i++) {
            row[i] = bits == 0 ? 0 : next() >>> 32 - bits;
        }
        return row;
    }

    /** Every weight of a size of its own, so that the deepest codes are worth it. */
    int[] steepRow() {
        int[] row = new int[32];
        for (int i = 0; i < row.length; i++) {
            row[i] = next() >>> 1 + below(31);
        }
        return row;
    }

    static int[] powersOfTwo() {
        int[] row = new int[32];
        for (int i = 0; i < row.length; i++) {
            row[i] = 1 << i % 16;
        }
        return row;
    }

    static int[] fibonacci() {
        int[] row = new int[32];
        row[0] = 1;
        row[1] = 1;
        for (int i = 2; i < row.length; i++) {
            row[i] = row[i - 1] + row[i - 2];
        }
        return row;
    }

    static int[] same(int weight) {
        int[] row = new int[32];
        java.util.Arrays.fill(row, weight);
        return row;
    }

    static int[] backwards(int[] row) {
        int[] other = new int[row.length];
        for (int i = 0; i < row.length; i++) {
            other[i] = row[row.length - 1 - i];
        }
        return other;
    }

    static void give(TrimCodes codes, int[] row) {
        for (int i = 0; i < 32; i += 4) {
            codes.weight(i, row[i], row[i + 1], row[i + 2], row[i + 3]);
        }
    }
}
