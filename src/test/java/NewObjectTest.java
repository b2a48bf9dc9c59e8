/** Promise 1: a new object. */
public final class NewObjectTest {
    public static void main(String[] args) {
        Check.sentence("No versions.", NewObjectTest::hasNoVersions);
        Check.sentence("No versions: no time but 0", NewObjectTest::hasNoTimeButZero);
        Check.sentence("No versions: no entry", NewObjectTest::hasNoEntry);
        Check.sentence("No versions: all sums are 0", NewObjectTest::sumsToZero);
        Check.sentence("objects are apart", NewObjectTest::objectsAreApart);
        Check.sentence("NONE = -1", () -> Check.same("NONE", AsOfLedger.NONE, -1));
        Check.end();
    }

    private static void hasNoVersions() {
        AsOfLedger x = new AsOfLedger();
        Check.same("clock()", x.clock(), 0);
        Check.same("entries()", x.entries(), 0);
        Check.same("head()", x.head(), 1469598103L);
        Check.same("verify()", x.verify(), 0);
        Check.holds("there is no version 0 to tamper with", !x.tamper(0, 0, 0));
    }

    private static void hasNoTimeButZero() {
        AsOfLedger x = new AsOfLedger();
        Check.same("trial(999, 0)", x.trial(999, 0), 0);
        Check.same("open(0, 0, 999, 0)", x.open(0, 0, 999, 0), 0);
        Check.refused("balance(0, 0, 1)", IllegalArgumentException.class, () -> x.balance(0, 0, 1));
        Check.refused("trial(0, 1)", IllegalArgumentException.class, () -> x.trial(0, 1));
        Check.refused("open(0, 0, 0, 1)", IllegalArgumentException.class, () -> x.open(0, 0, 0, 1));
    }

    private static void hasNoEntry() {
        AsOfLedger x = new AsOfLedger();
        Check.refused("correct(0, 1)", java.util.NoSuchElementException.class, () -> x.correct(0, 1));
        Check.refused("annul(0)", java.util.NoSuchElementException.class, () -> x.annul(0));
        for (int k = 0; k < 6; k++) {
            Check.same("field(0, " + k + ", 0)", x.field(0, k, 0), AsOfLedger.NONE);
        }
        Check.same("next()", x.next(), AsOfLedger.NONE);
        Check.same("moved()", x.moved(), 0);
    }

    private static void sumsToZero() {
        AsOfLedger x = new AsOfLedger();
        for (int account = 0; account < 16; account++) {
            Check.same("balance(" + account + ", 999, 0)", x.balance(account, 999, 0), 0);
            Check.same("turnover(" + account + ")", x.turnover(account), 0);
        }
    }

    private static void objectsAreApart() {
        AsOfLedger one = new AsOfLedger();
        AsOfLedger other = new AsOfLedger();
        one.post(0, 1, 7, 3);
        one.open(0, 0, 999, 1);
        one.tamper(0, 4, 8);
        Check.same("clock() of the other", other.clock(), 0);
        Check.same("entries() of the other", other.entries(), 0);
        Check.same("next() of the other", other.next(), AsOfLedger.NONE);
        Check.same("verify() of the other", other.verify(), 0);
    }
}
