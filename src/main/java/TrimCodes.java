/**
 * Codes of bits for N letters (2 to 16) none of which begins another, none
 * longer than a LIMIT, and how little they can cost.
 *
 * <p>The least cost is found by package-merge. A code of length l is bought as
 * l coins, one for each of the depths 1 to l, each at the letter's weight; a
 * coin of depth d is worth 2 to the -d, and two of one depth can pass for one
 * of the depth above. N codes have room just when their coins are worth at least
 * N - 1, as 2N - 2 coins of depth 1 are: the cheapest of these make the cheapest
 * code.
 */
public final class TrimCodes {
    private static final int POSITIVE_BITS = 2147483647;

    private static final int FEWEST_LETTERS = 2;
    private static final int LETTER_CHOICES = 15;
    private static final int MOST_LETTERS = 16;
    private static final int LIMIT_CHOICES = 16;
    private static final int FIRST_LIMIT = 5;
    private static final int WEIGHTS = 32;

    /**
     * A depth holds its letters and half as many pairs as the depth below has
     * coins, so never more than 2 * 16 - 1 coins.
     */
    private static final int MOST_COINS = 32;
    private static final int MOST_PAIRS = 16;

    private static final long NO_ROOM = -1L;

    /** Dearer than every coin, so that a merge never takes it before one. */
    private static final long NO_COIN = 9223372036854775807L;

    private final int[] weights;
    private int letterCount;
    private int lengthLimit;

    // The rows that least() works in: made once, because what each call makes
    // anew is never given back.
    private final long[] sortedWeights;
    private final long[] coins;
    private final long[] pairs;

    public TrimCodes() {
        weights = new int[WEIGHTS];
        letterCount = FEWEST_LETTERS;
        lengthLimit = FIRST_LIMIT;
        sortedWeights = new long[MOST_LETTERS];
        coins = new long[MOST_COINS];
        pairs = new long[MOST_PAIRS];
    }

    public void letters(int k) {
        letterCount = FEWEST_LETTERS + (k & POSITIVE_BITS) % LETTER_CHOICES;
    }

    public void limit(int k) {
        lengthLimit = (k & POSITIVE_BITS) % LIMIT_CHOICES;
    }

    public void weight(int i, int a, int b, int c, int d) {
        setWeight(i, a);
        setWeight(i + 1, b);
        setWeight(i + 2, c);
        setWeight(i + 3, d);
    }

    public long least() {
        if ((1 << lengthLimit) < letterCount) {
            return NO_ROOM;
        }
        sortWeights();
        int coinCount = 0;
        for (int depth = lengthLimit; depth > 0; depth--) {
            int pairCount = pairCoins(coinCount);
            coinCount = mergeLettersAndPairs(pairCount);
        }
        return costOfCheapest(2 * letterCount - 2);
    }

    private void setWeight(int i, int value) {
        // The lowest five bits are the place modulo 32 for negative i too, and
        // i + 3 may wrap round without harm.
        int place = i & (WEIGHTS - 1);
        if (place < weights.length) {
            weights[place] = value & POSITIVE_BITS;
        }
    }

    /** Sorts a copy: a later letters(k) must find the weights in their places. */
    private void sortWeights() {
        for (int i = 0; i < letterCount && i < weights.length; i++) {
            insertSorted(i, weights[i]);
        }
    }

    private void insertSorted(int sortedCount, long weight) {
        if (sortedCount >= sortedWeights.length) {
            return;
        }
        int place = sortedCount;
        while (place > 0 && sortedWeights[place - 1] > weight) {
            sortedWeights[place] = sortedWeights[place - 1];
            place--;
        }
        sortedWeights[place] = weight;
    }

    /** A last coin without a partner is left out: it is never worth a whole coin above. */
    private int pairCoins(int coinCount) {
        int pairCount = Math.min(coinCount / 2, pairs.length);
        for (int i = 0; i < pairCount && 2 * i + 1 < coins.length; i++) {
            pairs[i] = coins[2 * i] + coins[2 * i + 1];
        }
        return pairCount;
    }

    private int mergeLettersAndPairs(int pairCount) {
        int coinCount = Math.min(letterCount + pairCount, coins.length);
        int letter = 0;
        int pair = 0;
        for (int i = 0; i < coinCount; i++) {
            long letterCost = costAt(sortedWeights, letter, letterCount);
            long pairCost = costAt(pairs, pair, pairCount);
            if (letterCost <= pairCost) {
                coins[i] = letterCost;
                letter++;
            } else {
                coins[i] = pairCost;
                pair++;
            }
        }
        return coinCount;
    }

    private static long costAt(long[] row, int i, int count) {
        if (i < 0 || i >= count || i >= row.length) {
            return NO_COIN;
        }
        return row[i];
    }

    private long costOfCheapest(int count) {
        long sum = 0;
        for (int i = 0; i < count && i < coins.length; i++) {
            sum += coins[i];
        }
        return sum;
    }
}
