/** Promise 10: moved. */
public final class MovedTest {
    public static void main(String[] args) {
        Check.sentence("What the cursor's latest entry puts to its account", MovedTest::tellsTheLatestEntry);
        Check.sentence("at its time", MovedTest::tellsWhatWasAtItsTime);
        Check.sentence("at its time: whatever comes later", MovedTest::staysAsItWas);
        Check.sentence("below 0 if it is credited", MovedTest::isBelowZeroForACredit);
        Check.sentence("0 when next() has not answered an entry since the cursor was opened",
                MovedTest::isZeroWhenOpened);
        Check.sentence("0 when next() answered NONE the last time", MovedTest::isZeroAfterNone);
        Check.sentence("0 without a cursor", MovedTest::isZeroWithoutACursor);
        Check.end();
    }

    private static void moved(AsOfLedger x, int due) {
        Check.same("moved()", x.moved(), due);
    }

    private static void tellsTheLatestEntry() {
        AsOfLedger x = Made.underWay();
        moved(x, 60);
        moved(x, 60);
        x.next();
        moved(x, 7);
    }

    private static void tellsWhatWasAtItsTime() {
        AsOfLedger x = Made.underWay();
        x.open(2, 0, 999, 2);
        x.next();
        moved(x, -100);
        x.open(2, 0, 999, 3);
        x.next();
        moved(x, -60);
    }

    private static void staysAsItWas() {
        AsOfLedger x = Made.underWay();
        x.correct(0, 1);
        x.annul(2);
        moved(x, 60);
        x.annul(0);
        moved(x, 60);
        x.next();
        moved(x, 7);
    }

    private static void isBelowZeroForACredit() {
        AsOfLedger x = new AsOfLedger();
        x.post(0, 15, Made.MAX, 0);
        x.post(1, 14, 1, 0);
        int[][] due = {{0, Made.MAX}, {15, -Made.MAX}, {1, 1}, {14, -1}};
        for (int[] d : due) {
            x.open(d[0], 0, 0, 2);
            x.next();
            moved(x, d[1]);
        }
    }

    private static void isZeroWhenOpened() {
        AsOfLedger x = Made.underWay();
        x.open(1, 0, 999, 5);
        moved(x, 0);
        moved(x, 0);
        x.next();
        moved(x, 60);
        x.open(1, 9, 8, 5);
        moved(x, 0);
    }

    private static void isZeroAfterNone() {
        AsOfLedger x = Made.underWay();
        x.next();
        moved(x, 7);
        x.next();
        moved(x, 0);
        x.next();
        moved(x, 0);
    }

    private static void isZeroWithoutACursor() {
        AsOfLedger x = new AsOfLedger();
        moved(x, 0);
        x.post(0, 1, 5, 5);
        moved(x, 0);
        x.next();
        moved(x, 0);
    }
}
