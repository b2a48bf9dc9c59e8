/** Promise 15: verify. */
public final class VerifyTest {
    public static void main(String[] args) {
        Check.sentence("1 more than the number of the first version: any of them", VerifyTest::findsEveryWord);
        Check.sentence("the first version: of several", VerifyTest::findsTheFirst);
        Check.sentence("the first version: of 64", VerifyTest::findsTheEndsOfSixtyFour);
        Check.sentence("as they are now", VerifyTest::looksAtTheWordsOfNow);
        Check.sentence("with the link kept for the version before", VerifyTest::goesOnFromTheLinkBefore);
        Check.sentence("another link than the one kept for it: other words of the same link",
                VerifyTest::comparesLinks);
        Check.sentence("0 when there is none", VerifyTest::isZeroOfWholeLedgers);
        Check.end();
    }

    private static void findsEveryWord() {
        for (int v = 0; v < 5; v++) {
            for (int k = 0; k < 6; k++) {
                for (int w : new int[] {-77, Made.MIN, Made.MAX}) {
                    AsOfLedger x = Made.underWay();
                    x.tamper(v, k, w);
                    Check.same("verify() after tamper(" + v + ", " + k + ", " + w + ")", x.verify(), v + 1);
                }
            }
        }
    }

    private static void findsTheFirst() {
        AsOfLedger x = Made.underWay();
        x.tamper(3, 4, 1);
        Check.same("verify() of one", x.verify(), 4);
        x.tamper(4, 4, 1);
        Check.same("verify() with a later one", x.verify(), 4);
        x.tamper(1, 4, 1);
        Check.same("verify() with an earlier one", x.verify(), 2);
    }

    private static void findsTheEndsOfSixtyFour() {
        AsOfLedger x = Made.full();
        x.tamper(63, 5, 11);
        Check.same("verify() of the last", x.verify(), 64);
        x.tamper(0, 0, 1);
        Check.same("verify() of the first", x.verify(), 1);
    }

    private static void looksAtTheWordsOfNow() {
        AsOfLedger x = Made.underWay();
        x.tamper(3, 4, 1);
        x.tamper(1, 4, 1);
        x.tamper(1, 4, 20);
        Check.same("verify() when one is put back", x.verify(), 4);
        x.tamper(3, 4, 0);
        Check.same("verify() when all are put back", x.verify(), 0);
    }

    // Each version's words are right at the other one's place, but for the link before.
    private static void goesOnFromTheLinkBefore() {
        int[][] words = {{0, 0, 1, 2, 100, 10}, {0, 1, 3, 1, 20, 5}};
        AsOfLedger x = Made.underWay();
        for (int k = 0; k < 6; k++) {
            x.tamper(0, k, words[1][k]);
            x.tamper(1, k, words[0][k]);
        }
        Check.same("verify() of two that changed places", x.verify(), 1);
        for (int k = 0; k < 6; k++) {
            x.tamper(0, k, words[0][k]);
        }
        Check.same("verify() of the same words twice", x.verify(), 2);
        for (int k = 0; k < 6; k++) {
            x.tamper(1, k, words[1][k]);
        }
        Check.same("verify() of each at its place", x.verify(), 0);
    }

    // Three words found by trying all there are, two of them below 0: they give the link of 2, 100, 10.
    private static void comparesLinks() {
        AsOfLedger x = new AsOfLedger();
        x.post(1, 2, 100, 10);
        x.post(1, 2, 100, 10);
        x.tamper(0, 3, 12);
        Check.same("verify() after one of three", x.verify(), 1);
        x.tamper(0, 4, -2320496);
        Check.same("verify() after two of three", x.verify(), 1);
        x.tamper(0, 5, -68103376);
        Check.same("verify() after all three", x.verify(), 0);
        x.tamper(1, 5, 11);
        Check.same("verify() of a later one", x.verify(), 2);
    }

    private static void isZeroOfWholeLedgers() {
        Check.same("verify() of none", new AsOfLedger().verify(), 0);
        Check.same("verify() of five", Made.underWay().verify(), 0);
        Check.same("verify() of 64", Made.full().verify(), 0);
        AsOfLedger x = Made.underWay();
        x.tamper(2, 4, 60);
        Check.same("verify() after a tamper with the word that is there", x.verify(), 0);
    }
}
