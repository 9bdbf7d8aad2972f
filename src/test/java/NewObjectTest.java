/** Promise 1: N is 2, LIMIT is 5, and all 32 weights are 0. */
public final class NewObjectTest {
    private static final Check CHECK = new Check("NewObjectTest");

    public static void main(String[] args) {
        CHECK.due("new; N", Probe.letterCount(new TrimCodes()), 2);
        CHECK.due("new; LIMIT", Probe.limit(new TrimCodes()), 5);
        CHECK.due("new; least()", new TrimCodes().least(), 0);
        twoLettersCount();
        weightsAreZero();
        objectsAreApart();
        CHECK.end();
    }

    private static void twoLettersCount() {
        TrimCodes codes = new TrimCodes();
        codes.weight(0, 5, 7, 100, 1000);
        CHECK.due("new; weight(0, 5, 7, 100, 1000); least()", codes.least(), 12);
    }

    private static void weightsAreZero() {
        for (int n = 2; n <= 16; n++) {
            TrimCodes codes = new TrimCodes();
            codes.letters(n - 2);
            CHECK.due("new; letters(" + (n - 2) + "); least()", codes.least(), 0);
        }
    }

    private static void objectsAreApart() {
        TrimCodes changed = new TrimCodes();
        TrimCodes untouched = new TrimCodes();
        changed.letters(14);
        changed.limit(0);
        changed.weight(0, 1, 1, 1, 1);
        CHECK.due("least() of a changed object", changed.least(), -1);
        CHECK.due("least() of an untouched object", untouched.least(), 0);
        CHECK.due("N of an untouched object", Probe.letterCount(untouched), 2);
        CHECK.due("LIMIT of an object made later", Probe.limit(new TrimCodes()), 5);
    }
}
