/** Promise 9: next. */
public final class NextTest {
    public static void main(String[] args) {
        Check.sentence("The next entry of the cursor", NextTest::answersOneAfterAnother);
        Check.sentence("as it was opened: entries that are void by now", NextTest::answersWhatIsVoidByNow);
        Check.sentence("as it was opened: entries that are corrected by now", NextTest::answersWhatIsCorrectedByNow);
        Check.sentence("as it was opened: no entries of later", NextTest::answersNothingOfLater);
        Check.sentence("NONE when there is no cursor", NextTest::answersNoneWithoutACursor);
        Check.sentence("NONE when none is left", NextTest::answersNoneAtTheEnd);
        Check.sentence("NONE when none is left: of none", NextTest::answersNoneOfNone);
        Check.end();
    }

    private static void expect(AsOfLedger x, int... entries) {
        for (int entry : entries) {
            Check.same("next()", x.next(), entry);
        }
    }

    private static AsOfLedger opened() {
        AsOfLedger x = new AsOfLedger();
        x.post(1, 2, 100, 10);
        x.post(3, 1, 20, 5);
        x.post(1, 4, 7, 10);
        x.open(1, 0, 999, 3);
        return x;
    }

    private static void answersOneAfterAnother() {
        expect(opened(), 1, 0, 2);
    }

    private static void answersWhatIsVoidByNow() {
        AsOfLedger x = opened();
        x.annul(1);
        expect(x, 1);
        x.annul(2);
        x.annul(0);
        expect(x, 0, 2, AsOfLedger.NONE);
    }

    private static void answersWhatIsCorrectedByNow() {
        AsOfLedger x = opened();
        x.correct(1, 1);
        expect(x, 1);
        x.correct(0, 1);
        x.correct(0, 2);
        expect(x, 0, 2, AsOfLedger.NONE);
    }

    private static void answersNothingOfLater() {
        AsOfLedger x = opened();
        expect(x, 1);
        x.post(1, 2, 5, 0);
        x.post(1, 2, 5, 7);
        x.post(1, 2, 5, 999);
        expect(x, 0, 2, AsOfLedger.NONE);
        x.post(1, 2, 5, 999);
        expect(x, AsOfLedger.NONE);
    }

    private static void answersNoneWithoutACursor() {
        AsOfLedger x = new AsOfLedger();
        expect(x, AsOfLedger.NONE, AsOfLedger.NONE);
        x.post(0, 1, 5, 5);
        expect(x, AsOfLedger.NONE, AsOfLedger.NONE);
        Check.refused("open(0, 0, 1000, 1)", IllegalArgumentException.class, () -> x.open(0, 0, 1000, 1));
        expect(x, AsOfLedger.NONE);
    }

    private static void answersNoneAtTheEnd() {
        AsOfLedger x = opened();
        expect(x, 1, 0, 2);
        for (int step = 0; step < 70; step++) {
            expect(x, AsOfLedger.NONE);
        }
    }

    private static void answersNoneOfNone() {
        AsOfLedger x = opened();
        x.open(1, 6, 9, 3);
        expect(x, AsOfLedger.NONE, AsOfLedger.NONE);
        x.open(1, 10, 9, 3);
        expect(x, AsOfLedger.NONE, AsOfLedger.NONE);
        x.open(1, 0, 999, 0);
        expect(x, AsOfLedger.NONE, AsOfLedger.NONE);
    }
}
