/**
 * "What it is": 2 to 16 letters, words none of which begins another, none
 * longer than LIMIT, and 512 calls. Every answer here is worked out by hand.
 */
public final class WhatItIsTest {
    private static final Check CHECK = new Check("WhatItIsTest");
    private static final int LAST_CALL = 512;
    private static final int CALLS_TO_MAKE = 10;

    public static void main(String[] args) {
        fewestLetters();
        mostLetters();
        noWordBeginsAnother();
        noWordIsLongerThanLimit();
        limitsOfSixteenLetters();
        lettersNearTheEnd();
        limitNearTheEnd();
        weightNearTheEnd();
        leastToTheEnd();
        CHECK.end();
    }

    /** Ten calls on a new object: eight of weight, one of letters, one of limit. */
    private static TrimCodes make(int n, int limit, int... weights) {
        int[] row = new int[32];
        System.arraycopy(weights, 0, row, 0, weights.length);
        TrimCodes codes = new TrimCodes();
        Samples.give(codes, row);
        codes.letters(n - 2);
        codes.limit(limit);
        return codes;
    }

    /** One bit each, however much longer they may be. */
    private static void fewestLetters() {
        CHECK.due("N 2, LIMIT 0, weights 5 7; least()", make(2, 0, 5, 7).least(), -1);
        for (int limit = 1; limit <= 15; limit++) {
            CHECK.due("N 2, LIMIT " + limit + ", weights 5 7; least()", make(2, limit, 5, 7).least(), 12);
        }
    }

    private static void mostLetters() {
        int[] oneToSixteen = {1, 2, 3, 4, 5, 6, 7, 8, 9, 10, 11, 12, 13, 14, 15, 16};
        CHECK.due("N 16, LIMIT 3, weights 1 to 16; least()", make(16, 3, oneToSixteen).least(), -1);
        CHECK.due("N 16, LIMIT 4, weights 1 to 16; least()", make(16, 4, oneToSixteen).least(), 4 * 136);
        int[] onlySixteenth = {0, 0, 0, 0, 0, 0, 0, 0, 0, 0, 0, 0, 0, 0, 0, 7};
        CHECK.due("N 16, LIMIT 4, only the sixteenth weighs 7; least()", make(16, 4, onlySixteenth).least(), 28);
        CHECK.due("N 16, LIMIT 5, only the sixteenth weighs 7; least()", make(16, 5, onlySixteenth).least(), 7);
    }

    /** There are words enough in each of these but for the ones that begin others. */
    private static void noWordBeginsAnother() {
        CHECK.due("the word of no bits begins all; N 2, LIMIT 1, weights 0 7; least()", make(2, 1, 0, 7).least(), 7);
        CHECK.due("the word of no bits begins all; N 3, LIMIT 1; least()", make(3, 1).least(), -1);
        CHECK.due("six words of one or two bits; N 4, LIMIT 2, weights 1 1 1 9; least()",
            make(4, 2, 1, 1, 1, 9).least(), 24);
        CHECK.due("six words of one or two bits; N 5, LIMIT 2; least()", make(5, 2).least(), -1);
        CHECK.due("six words of one or two bits; N 6, LIMIT 2; least()", make(6, 2).least(), -1);
        CHECK.due("fourteen words of one to three bits; N 9, LIMIT 3; least()", make(9, 3).least(), -1);
        CHECK.due("two words of one bit, one is begun; N 3, LIMIT 5, weights 7 7 7; least()",
            make(3, 5, 7, 7, 7).least(), 35);
    }

    /** Seven letters would have words of 6 6 5 4 3 2 1 bits if they could. */
    private static void noWordIsLongerThanLimit() {
        int[] weights = {1, 1, 2, 4, 8, 16, 32};
        CHECK.due("N 7, LIMIT 7; least()", make(7, 7, weights).least(), 126);
        CHECK.due("N 7, LIMIT 6: the longest just fits; least()", make(7, 6, weights).least(), 126);
        CHECK.due("N 7, LIMIT 5: 5 5 5 5 3 2 1 bits; least()", make(7, 5, weights).least(), 128);
        CHECK.due("N 7, LIMIT 4: 4 4 4 4 3 3 1 bits; least()", make(7, 4, weights).least(), 136);
        CHECK.due("N 7, LIMIT 3: 3 3 3 3 3 3 2 bits; least()", make(7, 3, weights).least(), 160);
        CHECK.due("N 7, LIMIT 2; least()", make(7, 2, weights).least(), -1);
    }

    /** The longest word that 16 letters can want has 15 bits, the highest LIMIT. */
    private static void limitsOfSixteenLetters() {
        int[] weights = {1, 1, 2, 4, 8, 16, 32, 64, 128, 256, 512, 1024, 2048, 4096, 8192, 16384};
        CHECK.due("N 16, LIMIT 15: 15 15 14 13 .. 1 bits; least()", make(16, 15, weights).least(), 65534);
        CHECK.due("N 16, LIMIT 14: 14 14 14 14 12 .. 1 bits; least()", make(16, 14, weights).least(), 65536);
        CHECK.due("N 16, LIMIT 4: 4 bits each; least()", make(16, 4, weights).least(), 4 * 32768);
    }

    /**
     * No answer after the 512th is promised, so the call that is tried is the
     * 511th, and least() the 512th. None of the calls before leaves behind what
     * the 511th asks for.
     */
    private static void lettersNearTheEnd() {
        TrimCodes codes = make(2, 4, 1, 1, 1, 1, 1, 1, 1, 1, 1, 1, 1, 1, 1, 1, 1, 1);
        for (int call = CALLS_TO_MAKE + 1; call <= LAST_CALL - 2; call++) {
            codes.letters(call % 14);
        }
        codes.letters(14);
        CHECK.due("letters(14) as call 511; least()", codes.least(), 64);
    }

    private static void limitNearTheEnd() {
        TrimCodes codes = make(4, 1, 1, 1, 2, 4);
        for (int call = CALLS_TO_MAKE + 1; call <= LAST_CALL - 2; call++) {
            codes.limit(16 * call + 1);
        }
        codes.limit(2);
        CHECK.due("limit(2) as call 511; least()", codes.least(), 16);
    }

    private static void weightNearTheEnd() {
        TrimCodes codes = make(4, 5);
        for (int call = CALLS_TO_MAKE + 1; call <= LAST_CALL - 2; call++) {
            codes.weight(call, call, call, call, call);
        }
        codes.weight(0, 1, 1, 2, 4);
        CHECK.due("weight(0, 1, 1, 2, 4) as call 511; least()", codes.least(), 14);
    }

    private static void leastToTheEnd() {
        TrimCodes codes = make(4, 5, 1, 1, 2, 4);
        for (int call = CALLS_TO_MAKE + 1; call <= LAST_CALL; call++) {
            CHECK.due("call " + call + ": least()", codes.least(), 14);
        }
    }
}
