/** Promise 14: head. */
public final class HeadTest {
    public static void main(String[] args) {
        Check.sentence("The link of the latest version", HeadTest::isTheLatestLink);
        Check.sentence("The link of the latest version: the 64th", HeadTest::isTheLastOfSixtyFour);
        Check.sentence("as it was worked out when that was made", HeadTest::staysAsItWas);
        Check.sentence("1469598103 when there is none",
                () -> Check.same("head()", new AsOfLedger().head(), 1469598103L));
        Check.end();
    }

    // Worked out outside Java, in whole numbers that do not wrap by themselves.
    private static void isTheLatestLink() {
        AsOfLedger x = new AsOfLedger();
        x.post(1, 2, 100, 10);
        Check.same("head() after a post", x.head(), -2786847165693611741L);
        x.post(3, 1, 20, 5);
        Check.same("head() after a second one", x.head(), -2700284532474473846L);
        x.correct(0, 60);
        Check.same("head() after a correction", x.head(), 5919714448776711208L);
        x.annul(1);
        Check.same("head() after an annulment", x.head(), 8489064704385665065L);
        x.post(1, 4, 7, 10);
        Check.same("head() after a third post", x.head(), 2902538024555943931L);
    }

    private static void isTheLastOfSixtyFour() {
        Check.same("head() of 64", Made.full().head(), 2936956357406093257L);
    }

    private static void staysAsItWas() {
        AsOfLedger x = Made.underWay();
        for (int v = 0; v < 5; v++) {
            for (int k = 0; k < 6; k++) {
                x.tamper(v, k, -77);
                Check.same("head() after tamper(" + v + ", " + k + ", -77)", x.head(), 2902538024555943931L);
            }
        }
    }
}
