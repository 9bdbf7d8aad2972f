/**
 * Promises 1 to 5 together: runs of 512 calls, the longest that the document
 * speaks of, each answer held against a plain record of the calls before it.
 */
public final class RunsTest {
    private static final Check CHECK = new Check("RunsTest");
    private static final int LONGEST = 512;

    private static final int[] EDGES = {
        0, 1, 2, 14, 15, 16, 30, 31, 32, -1, -2, -16, -32, 2147483647, 2147483646, -2147483648, -2147483647,
    };

    private final Samples samples;
    private final String name;
    private final TrimCodes codes = new TrimCodes();
    private final int[] weights = new int[32];
    private int letterCount = 2;
    private int limit = 5;

    private RunsTest(int seed) {
        samples = new Samples(seed);
        name = "run " + seed;
    }

    public static void main(String[] args) {
        for (int seed = 1; seed <= 60; seed++) {
            new RunsTest(seed).run();
        }
        sameCallAllTheWay();
        CHECK.end();
    }

    private void run() {
        for (int call = 1; call <= LONGEST; call++) {
            switch (samples.below(6)) {
                case 0 -> letters(argument());
                case 1 -> limit(argument());
                case 2, 3 -> weight(argument(), argument(), argument(), argument(), argument());
                default -> CHECK.due(name + ", call " + call + ": least()",
                    codes.least(), Oracle.levels(weights, letterCount, limit));
            }
        }
    }

    private int argument() {
        if (samples.below(3) == 0) {
            return EDGES[samples.below(EDGES.length)];
        }
        return samples.next() >> samples.below(32);
    }

    private void letters(int k) {
        codes.letters(k);
        letterCount = 2 + (int) (withoutHighestBit(k) % 15);
    }

    private void limit(int k) {
        codes.limit(k);
        limit = (int) (withoutHighestBit(k) % 16);
    }

    private void weight(int i, int a, int b, int c, int d) {
        codes.weight(i, a, b, c, d);
        int[] four = {a, b, c, d};
        for (int slot = 0; slot < 4; slot++) {
            weights[(int) Math.floorMod((long) i + slot, 32L)] = (int) withoutHighestBit(four[slot]);
        }
    }

    private static long withoutHighestBit(int k) {
        return k < 0 ? k + 2147483648L : k;
    }

    private static void sameCallAllTheWay() {
        TrimCodes codes = new TrimCodes();
        codes.letters(14);
        codes.limit(15);
        int[] row = Samples.powersOfTwo();
        Samples.give(codes, row);
        long want = Oracle.levels(row, 16, 15);
        for (int call = 11; call <= LONGEST; call++) {
            CHECK.due("call " + call + ": least()", codes.least(), want);
        }
    }
}
