/** Promise 12: entries. */
public final class EntriesTest {
    public static void main(String[] args) {
        Check.sentence("How many entries there are.", EntriesTest::countsEntries);
        Check.sentence("How many entries there are: void ones too", EntriesTest::countsVoidOnes);
        Check.sentence("How many entries there are: as many as there can be", EntriesTest::countsSixtyFour);
        Check.end();
    }

    private static void countsEntries() {
        AsOfLedger x = new AsOfLedger();
        Check.same("of none", x.entries(), 0);
        x.post(1, 2, 3, 4);
        Check.same("of one", x.entries(), 1);
        x.correct(0, 5);
        Check.same("a correction is none", x.entries(), 1);
        x.post(1, 2, 3, 4);
        Check.same("the same words once more are another", x.entries(), 2);
    }

    private static void countsVoidOnes() {
        AsOfLedger x = Made.underWay();
        Check.same("with a void one", x.entries(), 3);
        x.annul(0);
        x.annul(2);
        Check.same("all are void", x.entries(), 3);
    }

    private static void countsSixtyFour() {
        AsOfLedger x = new AsOfLedger();
        for (int entry = 0; entry < 64; entry++) {
            x.post(0, 1, 1, 0);
        }
        Check.same("of 64", x.entries(), 64);
    }
}
