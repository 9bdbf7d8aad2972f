/** Promise 5: the least sum of weight times length, or -1 if no code has room. */
public final class LeastTest {
    private static final Check CHECK = new Check("LeastTest");

    public static void main(String[] args) {
        byHand();
        roomAtItsEdge();
        everyWordTaken();
        oneWordToSpare();
        oneLetterTooMany();
        orderOfLettersIsFree();
        lettersOfNoWeight();
        dearest();
        dearestButOne();
        smallWeightsAll();
        againstWords();
        againstLevels();
        changesNothing();
        refusalChangesNothing();
        CHECK.end();
    }

    private static void byHand() {
        TrimCodes codes = new TrimCodes();
        codes.letters(2);
        codes.weight(0, 1, 1, 2, 4);
        // Lengths 3, 3, 2, 1 where there is room for them, else 2 for each.
        CHECK.due("1 1 2 4, LIMIT 5; least()", codes.least(), 14);
        codes.limit(3);
        CHECK.due("1 1 2 4, LIMIT 3; least()", codes.least(), 14);
        codes.limit(2);
        CHECK.due("1 1 2 4, LIMIT 2; least()", codes.least(), 16);
        codes.limit(1);
        CHECK.due("1 1 2 4, LIMIT 1; least()", codes.least(), -1);
        codes.limit(15);
        codes.weight(0, 4, 1, 2, 1);
        CHECK.due("4 1 2 1, LIMIT 15; least()", codes.least(), 14);
        codes.weight(0, 0, 0, 0, 7);
        CHECK.due("0 0 0 7, LIMIT 15; least()", codes.least(), 7);
        codes.letters(3);
        codes.weight(0, 1, 1, 2, 3);
        codes.weight(4, 5, 0, 0, 0);
        // Lengths 4, 4, 3, 2, 1; with LIMIT 3 the lengths 3, 3, 2, 2, 2.
        CHECK.due("1 1 2 3 5, LIMIT 15; least()", codes.least(), 25);
        codes.limit(3);
        CHECK.due("1 1 2 3 5, LIMIT 3; least()", codes.least(), 26);
    }

    private static void roomAtItsEdge() {
        for (int limit = 0; limit <= 15; limit++) {
            for (int n = 2; n <= 16; n++) {
                TrimCodes codes = new TrimCodes();
                codes.limit(limit);
                codes.letters(n - 2);
                CHECK.due("N " + n + ", LIMIT " + limit + ", weights 0; least()",
                    codes.least(), 1 << limit < n ? -1 : 0);
                Samples.give(codes, Samples.same(2147483647));
                CHECK.due("N " + n + ", LIMIT " + limit + " has room",
                    codes.least() == -1 == 1 << limit < n);
            }
        }
    }

    private static long sum(int[] row, int n) {
        long sum = 0;
        for (int i = 0; i < n; i++) {
            sum += row[i];
        }
        return sum;
    }

    /** 2 to the LIMIT is N: every letter has LIMIT bits, whatever the weights. */
    private static void everyWordTaken() {
        int[][] rows = {Samples.powersOfTwo(), Samples.fibonacci(), Samples.same(2147483647), Samples.same(0)};
        for (int[] row : rows) {
            for (int limit = 1; limit <= 4; limit++) {
                int n = 1 << limit;
                compare(row, n, limit, limit * sum(row, n));
            }
        }
    }

    /** 2 to the LIMIT is N + 1: the dearest letter alone saves a bit, and only when it is worth it. */
    private static void oneWordToSpare() {
        int[][] rows = {Samples.powersOfTwo(), Samples.fibonacci(), Samples.same(2147483647), Samples.same(0)};
        for (int[] row : rows) {
            for (int limit = 2; limit <= 4; limit++) {
                int n = (1 << limit) - 1;
                compare(row, n, limit, limit * sum(row, n) - row[n - 1]);
            }
        }
    }

    /** 2 to the LIMIT is N - 1. */
    private static void oneLetterTooMany() {
        int[][] rows = {Samples.powersOfTwo(), Samples.fibonacci(), Samples.same(2147483647), Samples.same(0)};
        for (int[] row : rows) {
            for (int limit = 0; limit <= 3; limit++) {
                compare(row, (1 << limit) + 1, limit, -1);
            }
        }
    }

    private static void orderOfLettersIsFree() {
        permute(new int[] {1, 1, 2, 3, 5}, 0, 15, 25);
        permute(new int[] {1, 1, 2, 3, 5}, 0, 3, 26);
        permute(new int[] {0, 1, 1, 2, 4}, 0, 4, 15);
        permute(new int[] {0, 1, 1, 2, 4}, 0, 3, 16);
    }

    private static void permute(int[] weights, int fixed, int limit, long want) {
        if (fixed == weights.length) {
            compare(java.util.Arrays.copyOf(weights, 32), weights.length, limit, want);
            return;
        }
        for (int i = fixed; i < weights.length; i++) {
            int[] next = weights.clone();
            next[fixed] = weights[i];
            next[i] = weights[fixed];
            permute(next, fixed + 1, limit, want);
        }
    }

    /** They cost nothing, but they need room: the one that weighs 7 moves down for them. */
    private static void lettersOfNoWeight() {
        for (int limit = 1; limit <= 15; limit++) {
            for (int n = 2; n <= 16; n++) {
                if (n > 1 << limit) {
                    continue;
                }
                int bits = 1;
                while ((1 << limit) - (1 << limit - bits) < n - 1) {
                    bits++;
                }
                int[] row = new int[32];
                row[n - 1] = 7;
                compare(row, n, limit, 7L * bits);
            }
        }
    }

    /** A last letter of no weight among the heaviest: sums near the greatest there is. */
    private static void dearestButOne() {
        int[] row = Samples.same(2147483647);
        row[15] = 0;
        compare(row, 16, 4, 60 * 2147483647L);
        compare(row, 16, 15, 60 * 2147483647L);
        row[15] = 1;
        compare(row, 16, 4, 60 * 2147483647L + 4);
        compare(row, 16, 15, 60 * 2147483647L + 4);
    }

    private static void smallWeightsAll() {
        for (int choice = 0; choice < 1024; choice++) {
            int[] row = new int[32];
            for (int i = 0; i < 5; i++) {
                row[i] = choice >> 2 * i & 3;
            }
            for (int limit = 0; limit <= 5; limit++) {
                for (int n = 2; n <= 5; n++) {
                    compare(row, n, limit, Oracle.levels(row, n, limit));
                }
            }
        }
    }

    private static void dearest() {
        TrimCodes codes = new TrimCodes();
        codes.letters(14);
        Samples.give(codes, Samples.same(-1));
        for (int limit = 4; limit <= 15; limit++) {
            codes.limit(limit);
            CHECK.due("16 weights 2147483647, LIMIT " + limit + "; least()", codes.least(), 64 * 2147483647L);
        }
    }

    private static void againstWords() {
        Samples samples = new Samples(5);
        for (int round = 0; round < 6; round++) {
            int[] row = round < 4 ? samples.row(2 + round * 9) : samples.steepRow();
            for (int limit = 0; limit <= 3; limit++) {
                for (int n = 2; n <= 5; n++) {
                    compare(row, n, limit, Oracle.words(row, n, limit));
                }
            }
            for (int n = 2; n <= 4; n++) {
                compare(row, n, 4, Oracle.words(row, n, 4));
            }
        }
    }

    private static void againstLevels() {
        Samples samples = new Samples(7);
        againstLevels(Samples.powersOfTwo());
        againstLevels(Samples.fibonacci());
        againstLevels(Samples.backwards(Samples.powersOfTwo()));
        againstLevels(Samples.backwards(Samples.fibonacci()));
        againstLevels(Samples.same(1));
        againstLevels(Samples.same(2147483647));
        for (int bits = 1; bits <= 31; bits++) {
            againstLevels(samples.row(bits));
        }
        for (int round = 0; round < 60; round++) {
            againstLevels(samples.steepRow());
        }
    }

    private static void againstLevels(int[] row) {
        for (int limit = 0; limit <= 15; limit++) {
            for (int n = 2; n <= 16; n++) {
                compare(row, n, limit, Oracle.levels(row, n, limit));
            }
        }
    }

    private static void compare(int[] row, int n, int limit, long want) {
        TrimCodes codes = new TrimCodes();
        Samples.give(codes, row);
        codes.letters(n - 2);
        codes.limit(limit);
        CHECK.due("N " + n + ", LIMIT " + limit + ", weights " + java.util.Arrays.toString(row) + "; least()",
            codes.least(), want);
    }

    /** The order of the weights, N and LIMIT outlast least(), and so do the answers. */
    private static void changesNothing() {
        TrimCodes codes = new TrimCodes();
        codes.weight(0, 90, 80, 70, 60);
        codes.weight(4, 5, 4, 3, 2);
        codes.letters(6);
        long all = codes.least();
        CHECK.due("least() again", codes.least(), all);
        codes.letters(0);
        CHECK.due("the first two after least() of eight", codes.least(), 170);
        codes.limit(0);
        CHECK.due("least() without room", codes.least(), -1);
        codes.limit(5);
        CHECK.due("least() with room again", codes.least(), 170);
        codes.letters(6);
        CHECK.due("least() of eight after smaller ones", codes.least(), all);
        CHECK.due("LIMIT after least()", Probe.limit(codes), 5);
    }

    /** -1 leaves N, LIMIT and the weights as they were, and may be asked for again. */
    private static void refusalChangesNothing() {
        TrimCodes codes = new TrimCodes();
        codes.letters(2);
        codes.weight(0, 4, 1, 2, 1);
        codes.limit(1);
        CHECK.due("four letters, LIMIT 1; least()", codes.least(), -1);
        CHECK.due("four letters, LIMIT 1; least() again", codes.least(), -1);
        codes.letters(0);
        CHECK.due("two letters after -1; least()", codes.least(), 5);
        codes.letters(2);
        CHECK.due("four letters, LIMIT still 1; least()", codes.least(), -1);
        codes.limit(2);
        CHECK.due("four letters still, LIMIT 2; least()", codes.least(), 16);
        codes.limit(3);
        CHECK.due("four letters still, LIMIT 3; least()", codes.least(), 14);
    }
}
