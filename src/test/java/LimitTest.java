/** Promise 3: LIMIT becomes (k & 2147483647) modulo 16. */
public final class LimitTest {
    private static final Check CHECK = new Check("LimitTest");

    /** k and the LIMIT that is due. */
    private static final int[][] DUE = {
        {0, 0}, {1, 1}, {2, 2}, {3, 3}, {4, 4}, {5, 5}, {6, 6}, {7, 7}, {8, 8}, {9, 9}, {10, 10}, {11, 11},
        {12, 12}, {13, 13}, {14, 14}, {15, 15}, {16, 0}, {17, 1}, {31, 15}, {32, 0}, {1000, 8},
        {2147483647, 15}, {2147483646, 14}, {2147483632, 0}, {2147483631, 15},
        {-1, 15}, {-2, 14}, {-15, 1}, {-16, 0}, {-17, 15}, {-2147483648, 0}, {-2147483647, 1},
        {-2147483633, 15}, {-2147483632, 0},
    };

    public static void main(String[] args) {
        for (int[] due : DUE) {
            TrimCodes codes = new TrimCodes();
            codes.limit(11);
            codes.limit(due[0]);
            CHECK.due("limit(" + due[0] + "); LIMIT", Probe.limit(codes), due[1]);
        }
        moduloFromTheLeastToTheGreatest();
        formerLimitDoesNotMatter();
        zeroHasNoRoomForAny();
        restStays();
        CHECK.end();
    }

    /** Runs of k across 0, both ends of the ints and the middle of each half. */
    private static void moduloFromTheLeastToTheGreatest() {
        long[] middles = {0, 2147483647L, -2147483648L, 1073741824L, -1073741824L};
        for (long middle : middles) {
            for (long k = middle - 40; k <= middle + 40; k++) {
                TrimCodes codes = new TrimCodes();
                codes.limit((int) k);
                long withoutHighestBit = Math.floorMod(k, 2147483648L);
                CHECK.due("limit(" + (int) k + "); LIMIT", Probe.limit(codes), withoutHighestBit % 16);
            }
        }
    }

    private static void formerLimitDoesNotMatter() {
        for (int former = 0; former < 16; former++) {
            for (int k = 0; k < 16; k++) {
                TrimCodes codes = new TrimCodes();
                codes.limit(former);
                codes.limit(k);
                CHECK.due("limit(" + former + "), limit(" + k + "); LIMIT", Probe.limit(codes), k);
            }
        }
    }

    private static void zeroHasNoRoomForAny() {
        int[] zeros = {0, 16, 32, -16, -2147483648, 2147483632};
        for (int k : zeros) {
            for (int n = 2; n <= 16; n++) {
                TrimCodes codes = new TrimCodes();
                codes.letters(n - 2);
                codes.limit(k);
                CHECK.due("N " + n + ", limit(" + k + "); least()", codes.least(), -1);
            }
        }
    }

    private static void restStays() {
        TrimCodes codes = new TrimCodes();
        codes.letters(1);
        codes.weight(0, 10, 20, 30, 40);
        codes.limit(0);
        CHECK.due("three letters, limit(0); least()", codes.least(), -1);
        codes.limit(1);
        CHECK.due("three letters, limit(1); least()", codes.least(), -1);
        codes.limit(2);
        CHECK.due("three letters, limit(2); least()", codes.least(), 90);
        codes.limit(-1);
        CHECK.due("three letters, limit(-1); least()", codes.least(), 90);
        CHECK.due("N after limit", Probe.letterCount(codes), 3);
    }
}
