/** Promise 4: four weights from i on, each place modulo 32, without their highest bits. */
public final class WeightTest {
    private static final Check CHECK = new Check("WeightTest");

    private static final int[] PLACES = {
        0, 1, 2, 3, 4, 12, 13, 14, 15, 16, 17, 18, 27, 28, 29, 30, 31, 32, 33, 47, 48, 61, 62, 63, 64, 1000,
        -1, -2, -3, -4, -31, -32, -33, 2147483647, 2147483646, 2147483645, 2147483644, 2147483643,
        -2147483648, -2147483647, -2147483646,
    };

    public static void main(String[] args) {
        byHand();
        highestBitsGo();
        for (int place : PLACES) {
            fourPlacesChange(place);
        }
        lowestFiveBits();
        inThisOrder();
        wrapAroundLeavesTheNextAlone();
        laterOneStays();
        setWhileThereIsNoRoom();
        restStays();
        CHECK.end();
    }

    private static void byHand() {
        TrimCodes codes = new TrimCodes();
        codes.weight(0, 1, 2, 4, 8);
        CHECK.due("weight(0, 1, 2, 4, 8); least()", codes.least(), 3);
        codes.weight(31, 1000, 10, 20, 1000);
        CHECK.due("weight(31, 1000, 10, 20, 1000); least()", codes.least(), 30);
        codes.weight(30, 1000, 1000, 40, 50);
        CHECK.due("weight(30, 1000, 1000, 40, 50); least()", codes.least(), 90);
        codes.weight(29, 1000, 1000, 1000, 60);
        CHECK.due("weight(29, 1000, 1000, 1000, 60); least()", codes.least(), 110);
        codes.weight(16, 7, 7, 7, 7);
        CHECK.due("weight(16, 7, 7, 7, 7); least()", codes.least(), 110);
        codes.weight(-32, 3, 4, 5, 6);
        CHECK.due("weight(-32, 3, 4, 5, 6); least()", codes.least(), 7);
        codes.weight(2147483647, 1, 2, 3, 4);
        CHECK.due("weight(2147483647, 1, 2, 3, 4); least()", codes.least(), 5);
    }

    private static void highestBitsGo() {
        int[] given = {-1, -2147483648, 2147483647, -2147483647, -2, 0, 1};
        long[] due = {2147483647L, 0, 2147483647L, 1, 2147483646L, 0, 1};
        for (int i = 0; i < given.length; i++) {
            for (int slot = 0; slot < 4; slot++) {
                int[] four = new int[4];
                four[slot] = given[i];
                TrimCodes codes = new TrimCodes();
                codes.weight(-slot, four[0], four[1], four[2], four[3]);
                CHECK.due("weight(" + -slot + ", ..), " + given[i] + " on place 0; least()", codes.least(), due[i]);
            }
        }
        TrimCodes codes = new TrimCodes();
        codes.weight(0, -1, -1, -1, -1);
        CHECK.due("weight(0, -1, -1, -1, -1); least()", codes.least(), 4294967294L);
    }

    /** Each of the first 16 places has a size of its own, so a wrong one shows in the cost. */
    private static void fourPlacesChange(int place) {
        int[] row = Samples.fibonacci();
        TrimCodes codes = new TrimCodes();
        codes.letters(14);
        codes.limit(15);
        Samples.give(codes, row);
        int[] four = {1000003, 20000003, 300000007, 1500000001};
        codes.weight(place, four[0], four[1], four[2], four[3]);
        for (int slot = 0; slot < 4; slot++) {
            row[(int) Math.floorMod((long) place + slot, 32L)] = four[slot];
        }
        for (int n = 2; n <= 16; n++) {
            codes.letters(n - 2);
            long want = Oracle.levels(row, n, 15);
            CHECK.due("weight(" + place + ", ..), N " + n + "; least()", codes.least(), want);
        }
    }

    /** Each i of two rounds, with every bit above the fifth set or not. */
    private static void lowestFiveBits() {
        for (int i = 0; i < 32; i++) {
            fourPlacesChange(i);
            for (int bit = 5; bit < 32; bit++) {
                TrimCodes codes = new TrimCodes();
                codes.letters(14);
                codes.limit(15);
                codes.weight(i | 1 << bit, 9, 0, 0, 0);
                CHECK.due("weight(" + (i | 1 << bit) + ", 9, 0, 0, 0); least()", codes.least(), i < 16 ? 9 : 0);
            }
        }
    }

    /** With N 2 the two places that count show two neighbours of a, b, c, d at a time. */
    private static void inThisOrder() {
        int[] places = {0, 31, 30, 29, 1, 28};
        long[] due = {11, 110, 1100, 1000, 1, 0};
        for (int i = 0; i < places.length; i++) {
            TrimCodes codes = new TrimCodes();
            codes.weight(places[i], 1, 10, 100, 1000);
            CHECK.due("weight(" + places[i] + ", 1, 10, 100, 1000); least()", codes.least(), due[i]);
        }
    }

    /** Of four letters that weigh 100 the last four places reach one, two or three. */
    private static void wrapAroundLeavesTheNextAlone() {
        int[] places = {28, 29, 30, 31, -4, -3, -2, -1, 2147483644, 2147483645, 2147483646, 2147483647};
        long[] dueByReached = {800, 600, 300, 100};
        for (int place : places) {
            TrimCodes codes = new TrimCodes();
            codes.letters(2);
            codes.weight(0, 100, 100, 100, 100);
            codes.weight(place, 0, 0, 0, 0);
            CHECK.due("100 for four letters, weight(" + place + ", 0, 0, 0, 0); least()",
                codes.least(), dueByReached[place & 3]);
        }
    }

    private static void setWhileThereIsNoRoom() {
        TrimCodes codes = new TrimCodes();
        codes.limit(0);
        codes.weight(0, 5, 7, 0, 0);
        CHECK.due("limit(0), weight(0, 5, 7, 0, 0); least()", codes.least(), -1);
        codes.limit(1);
        CHECK.due("limit(0), weight(0, 5, 7, 0, 0), limit(1); least()", codes.least(), 12);
    }

    private static void laterOneStays() {
        TrimCodes codes = new TrimCodes();
        codes.weight(0, 9, 9, 9, 9);
        codes.weight(1, 5, 5, 5, 5);
        CHECK.due("the later weight of place 1; least()", codes.least(), 14);
        codes.weight(0, 0, 0, 0, 0);
        CHECK.due("weights back at 0; least()", codes.least(), 0);
    }

    private static void restStays() {
        TrimCodes codes = new TrimCodes();
        codes.letters(5);
        codes.limit(9);
        Samples.give(codes, Samples.same(-1));
        CHECK.due("LIMIT after weight", Probe.limit(codes), 9);
        codes.letters(5);
        Samples.give(codes, Samples.same(-1));
        CHECK.due("N after weight", Probe.letterCount(codes), 7);
    }
}
