/** "Terms": the range of a weight, the 32 weights, the first N that count, the starts. */
public final class TermsTest {
    private static final Check CHECK = new Check("TermsTest");

    public static void main(String[] args) {
        lightestWeight();
        heaviestWeight();
        firstLettersCount();
        thirtyTwoWeights();
        uncountedWeightsAreKept();
        weightsStartAtZero();
        lettersStartAtTwo();
        limitStartsAtFive();
        CHECK.end();
    }

    private static void lightestWeight() {
        TrimCodes codes = new TrimCodes();
        codes.weight(0, 0, 1, 0, 0);
        CHECK.due("weights 0 1; least()", codes.least(), 1);
        codes.weight(0, 0, 0, 0, 0);
        CHECK.due("weights 0 0; least()", codes.least(), 0);
    }

    /** Two of the heaviest are more than an int holds. */
    private static void heaviestWeight() {
        TrimCodes codes = new TrimCodes();
        codes.weight(0, 2147483647, 0, 0, 0);
        CHECK.due("weights 2147483647 0; least()", codes.least(), 2147483647L);
        codes.weight(0, 2147483647, 1, 0, 0);
        CHECK.due("weights 2147483647 1; least()", codes.least(), 2147483648L);
        codes.weight(0, 2147483647, 2147483647, 0, 0);
        CHECK.due("weights 2147483647 2147483647; least()", codes.least(), 4294967294L);
        codes.letters(1);
        codes.weight(0, 2147483647, 2147483647, 2147483647, 0);
        CHECK.due("weights 2147483647, three times; least()", codes.least(), 5 * 2147483647L);
    }

    /** A letter that alone weighs something has a word of one bit: it costs its weight. */
    private static void firstLettersCount() {
        for (int place = 0; place < 32; place++) {
            int[] row = new int[32];
            row[place] = 9;
            TrimCodes codes = new TrimCodes();
            codes.limit(15);
            Samples.give(codes, row);
            for (int n = 2; n <= 16; n++) {
                codes.letters(n - 2);
                CHECK.due("only weight " + place + " is 9, N " + n + "; least()", codes.least(), place < n ? 9 : 0);
            }
        }
    }

    /** With fewer than 32 places the later ones would fall on the first 16. */
    private static void thirtyTwoWeights() {
        TrimCodes codes = new TrimCodes();
        codes.letters(14);
        codes.limit(15);
        for (int place = 16; place <= 28; place++) {
            codes.weight(place, 9, 9, 9, 9);
            CHECK.due("16 letters, weight(" + place + ", 9, 9, 9, 9); least()", codes.least(), 0);
        }
        codes.weight(29, 9, 9, 9, 9);
        CHECK.due("16 letters, weight(29, 9, 9, 9, 9); least()", codes.least(), 9);
    }

    /** A weight that does not count now does so as soon as N reaches it. */
    private static void uncountedWeightsAreKept() {
        TrimCodes codes = new TrimCodes();
        codes.weight(0, 1, 1, 2, 4);
        CHECK.due("1 1 2 4, N 2; least()", codes.least(), 2);
        codes.letters(1);
        CHECK.due("1 1 2 4, N 3; least()", codes.least(), 6);
        codes.letters(2);
        CHECK.due("1 1 2 4, N 4; least()", codes.least(), 14);
        codes.letters(0);
        codes.weight(2, 0, 0, 0, 0);
        codes.letters(2);
        CHECK.due("1 1 0 0 set at N 2, N 4; least()", codes.least(), 3);
    }

    private static void weightsStartAtZero() {
        TrimCodes codes = new TrimCodes();
        codes.letters(14);
        CHECK.due("new; letters(14); least()", codes.least(), 0);
        codes.weight(12, 0, 0, 0, 3);
        CHECK.due("new; letters(14); weight(12, 0, 0, 0, 3); least()", codes.least(), 3);
    }

    private static void lettersStartAtTwo() {
        TrimCodes codes = new TrimCodes();
        codes.weight(0, 0, 3, 0, 0);
        CHECK.due("new; weight(0, 0, 3, 0, 0); least()", codes.least(), 3);
        codes.weight(0, 0, 0, 3, 3);
        CHECK.due("new; weight(0, 0, 0, 3, 3); least()", codes.least(), 0);
    }

    /** The seven letters would have 126 with a LIMIT of 6, and 136 with one of 4. */
    private static void limitStartsAtFive() {
        TrimCodes codes = new TrimCodes();
        codes.letters(5);
        codes.weight(0, 1, 1, 2, 4);
        codes.weight(4, 8, 16, 32, 0);
        CHECK.due("new; letters(5); weights 1 1 2 4 8 16 32; least()", codes.least(), 128);
    }
}
