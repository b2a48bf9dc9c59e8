/** Promise 16: tamper. */
public final class TamperTest {
    private static final int MAX = Made.MAX;
    private static final int MIN = Made.MIN;

    public static void main(String[] args) {
        Check.sentence("word k of version v becomes w", TamperTest::changesTheWord);
        Check.sentence("Answers true", TamperTest::answersTrueForEachWord);
        Check.sentence("Answers true: for any w", TamperTest::takesAnyWord);
        Check.sentence("Answers true: once it has answered true", TamperTest::goesOnOnceTampered);
        Check.sentence("Answers true: with the word that is there", TamperTest::takesTheWordThatIsThere);
        Check.sentence("false when there is no such version", TamperTest::refusesVersions);
        Check.sentence("false when there is no such version: of 64", TamperTest::refusesTheSixtyFifthVersion);
        Check.sentence("false when there is no such word", TamperTest::refusesWords);
        Check.end();
    }

    // Put back word by word: only where each one stood is the ledger whole again.
    private static void changesTheWord() {
        int[][] words = {{0, 0, 1, 2, 100, 10}, {0, 1, 3, 1, 20, 5}, {1, 0, 1, 2, 60, 10}, {2, 1, 3, 1, 0, 5},
            {0, 2, 1, 4, 7, 10}};
        AsOfLedger x = Made.underWay();
        for (int v = 0; v < 5; v++) {
            for (int k = 0; k < 6; k++) {
                x.tamper(v, k, 1000 + v + k);
                Check.same("verify() after tamper(" + v + ", " + k + ")", x.verify(), v + 1);
                x.tamper(v, k, words[v][k]);
                Check.same("verify() after it is put back", x.verify(), 0);
            }
        }
    }

    private static void answersTrueForEachWord() {
        for (int v = 0; v < 5; v++) {
            for (int k = 0; k < 6; k++) {
                Check.holds("tamper(" + v + ", " + k + ", 3) is true", Made.underWay().tamper(v, k, 3));
            }
        }
        Check.holds("tamper(63, 5, 3) of 64 is true", Made.full().tamper(63, 5, 3));
    }

    private static void takesAnyWord() {
        for (int w : new int[] {0, -1, 1, 16, 1000, MIN, MAX}) {
            AsOfLedger x = Made.underWay();
            Check.holds("tamper(4, 4, " + w + ") is true", x.tamper(4, 4, w));
            Check.same("verify() after tamper(4, 4, " + w + ")", x.verify(), 5);
        }
    }

    private static void goesOnOnceTampered() {
        AsOfLedger x = Made.tampered();
        Check.holds("tamper(4, 5, 0) is true", x.tamper(4, 5, 0));
        Check.holds("tamper(5, 5, 0) is false", !x.tamper(5, 5, 0));
        Check.holds("tamper(4, 6, 0) is false", !x.tamper(4, 6, 0));
        Check.refused("false does not heal it", IllegalStateException.class, () -> x.entries());
    }

    private static void takesTheWordThatIsThere() {
        AsOfLedger x = Made.underWay();
        Check.holds("tamper(0, 4, 100) is true", x.tamper(0, 4, 100));
        Check.same("verify()", x.verify(), 0);
        Check.refused("entries()", IllegalStateException.class, () -> x.entries());
    }

    private static void isFalse(AsOfLedger x, int v, int k) {
        Check.holds("tamper(" + v + ", " + k + ", 9) is false", !x.tamper(v, k, 9));
    }

    private static void refusesVersions() {
        AsOfLedger none = new AsOfLedger();
        isFalse(none, 0, 0);
        Check.unchanged("tamper of none", none, new AsOfLedger());
        for (int v : new int[] {-1, 5, 6, 63, 64, MAX, MIN}) {
            AsOfLedger x = Made.underWay();
            isFalse(x, v, 0);
            isFalse(x, v, 5);
            Check.unchanged("tamper of version " + v, x, Made.underWay());
        }
    }

    private static void refusesTheSixtyFifthVersion() {
        AsOfLedger x = Made.full();
        isFalse(x, 64, 0);
        isFalse(x, -1, 5);
        Check.unchanged("tamper of version 64", x, Made.full());
    }

    // Places outside a version that would be another version's words, were they not looked at.
    private static void refusesWords() {
        for (int k : new int[] {-1, 6, 7, -6, 12, MAX, MIN}) {
            AsOfLedger x = Made.underWay();
            for (int v = 0; v < 5; v++) {
                isFalse(x, v, k);
            }
            Check.unchanged("tamper of word " + k, x, Made.underWay());
        }
    }
}
