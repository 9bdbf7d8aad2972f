/** Promise 2: N becomes 2 + (k & 2147483647) modulo 15. */
public final class LettersTest {
    private static final Check CHECK = new Check("LettersTest");

    /** k and the N that is due. */
    private static final int[][] DUE = {
        {0, 2}, {1, 3}, {2, 4}, {7, 9}, {13, 15}, {14, 16}, {15, 2}, {16, 3}, {29, 16}, {30, 2}, {31, 3},
        {1000, 12}, {2147483647, 9}, {2147483646, 8}, {2147483640, 2}, {2147483639, 16},
        {-1, 9}, {-2, 8}, {-7, 3}, {-8, 2}, {-9, 16}, {-15, 10}, {-2147483648, 2}, {-2147483647, 3},
        {-2147483634, 16}, {-2147483633, 2},
    };

    public static void main(String[] args) {
        for (int[] due : DUE) {
            TrimCodes codes = new TrimCodes();
            codes.letters(9);
            codes.letters(due[0]);
            CHECK.due("letters(" + due[0] + "); N", Probe.letterCount(codes), due[1]);
        }
        moduloFromTheLeastToTheGreatest();
        formerLettersDoNotMatter();
        firstLettersCount();
        roomComesAndGoes();
        restStays();
        CHECK.end();
    }

    /** Runs of k across 0, both ends of the ints and the middle of each half. */
    private static void moduloFromTheLeastToTheGreatest() {
        long[] middles = {0, 2147483647L, -2147483648L, 1073741824L, -1073741824L};
        for (long middle : middles) {
            for (long k = middle - 40; k <= middle + 40; k++) {
                TrimCodes codes = new TrimCodes();
                codes.letters((int) k);
                long withoutHighestBit = Math.floorMod(k, 2147483648L);
                CHECK.due("letters(" + (int) k + "); N", Probe.letterCount(codes), 2 + withoutHighestBit % 15);
            }
        }
    }

    private static void formerLettersDoNotMatter() {
        for (int former = 0; former < 15; former++) {
            for (int k = 0; k < 15; k++) {
                TrimCodes codes = new TrimCodes();
                codes.letters(former);
                codes.letters(k);
                CHECK.due("letters(" + former + "), letters(" + k + "); N", Probe.letterCount(codes), k + 2);
            }
        }
    }

    /** Eight words of three bits: seven or eight letters have room, nine have not. */
    private static void roomComesAndGoes() {
        TrimCodes codes = new TrimCodes();
        codes.limit(3);
        codes.weight(0, 1, 1, 1, 1);
        codes.weight(4, 1, 1, 1, 1);
        codes.letters(6);
        CHECK.due("LIMIT 3, letters(6); least()", codes.least(), 24);
        codes.letters(7);
        CHECK.due("LIMIT 3, letters(7); least()", codes.least(), -1);
        codes.letters(14);
        CHECK.due("LIMIT 3, letters(14); least()", codes.least(), -1);
        codes.letters(5);
        CHECK.due("LIMIT 3, letters(5); least()", codes.least(), 20);
    }

    private static void firstLettersCount() {
        TrimCodes codes = new TrimCodes();
        codes.limit(15);
        Samples.give(codes, Samples.backwards(Samples.fibonacci()));
        for (int n = 16; n >= 2; n--) {
            codes.letters(n - 2);
            long want = Oracle.levels(Samples.backwards(Samples.fibonacci()), n, 15);
            CHECK.due("letters(" + (n - 2) + "); least()", codes.least(), want);
        }
    }

    private static void restStays() {
        TrimCodes codes = new TrimCodes();
        codes.weight(0, 3, 4, 0, 0);
        codes.letters(14);
        codes.letters(0);
        CHECK.due("weights after letters; least()", codes.least(), 7);
        CHECK.due("LIMIT after letters", Probe.limit(codes), 5);
    }
}
