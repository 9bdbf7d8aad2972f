/** Promise 2: N becomes 2 + (k & 2147483647) modulo 15. */
public final class LettersTest {
    private static final Check CHECK = new Check("LettersTest");

    /** k and the N that is due. */
    private static final int[][] DUE = {
        {0, 2}, {1, 3}, {2, 4}, {7, 9}, {13, 15}, {14, 16}, {15, 2}, {16, 3}, {29, 16}, {30, 2}, {31, 3},
        {1000, 12}, {2147483647, 9}, {2147483646, 8}, {2147483640, 2}, {2147483639, 16},
        {-1, 9}, {-2, 8}, {-7, 3}, {-8, 2}, {-9, 16}, {-15, 10}, {-2147483648, 2}, {-2147483647, 3},
        {-2147483634, 16}, {-2147483633, 2},
    };

    public static void main(String[] args) {
        for (int[] due : DUE) {
            TrimCodes codes = new TrimCodes();
            codes.letters(9);
            codes.letters(due[0]);
            CHECK.due("letters(" + due[0] + "); N", Probe.letterCount(codes), due[1]);
        }
        firstLettersCount();
        restStays();
        CHECK.end();
    }

    private static void firstLettersCount() {
        TrimCodes codes = new TrimCodes();
        codes.limit(15);
        Samples.give(codes, Samples.backwards(Samples.fibonacci()));
        for (int n = 16; n >= 2; n--) {
            codes.letters(n - 2);
            long want = Oracle.levels(Samples.backwards(Samples.fibonacci()), n, 15);
            CHECK.due("letters(" + (n - 2) + "); least()", codes.least(), want);
        }
    }

    private static void restStays() {
        TrimCodes codes = new TrimCodes();
        codes.weight(0, 3, 4, 0, 0);
        codes.letters(14);
        codes.letters(0);
        CHECK.due("weights after letters; least()", codes.least(), 7);
        CHECK.due("LIMIT after letters", Probe.limit(codes), 5);
    }
}
