/** Promise 1: a new object has no versions. */
public final class NewObjectTest {
    public static void main(String[] args) {
        AsOfLedger x = new AsOfLedger();
        Check.same("clock()", x.clock(), 0);
        Check.same("entries()", x.entries(), 0);
        Check.same("head()", x.head(), 1469598103L);
        Check.same("verify()", x.verify(), 0);
        Check.same("next()", x.next(), AsOfLedger.NONE);
        Check.same("moved()", x.moved(), 0);
        Check.same("field(0, 0, 0)", x.field(0, 0, 0), AsOfLedger.NONE);
        Check.same("trial(999, 0)", x.trial(999, 0), 0);
        Check.same("open(0, 0, 999, 0)", x.open(0, 0, 999, 0), 0);
        for (int account = 0; account < 16; account++) {
            Check.same("balance", x.balance(account, 999, 0), 0);
            Check.same("turnover", x.turnover(account), 0);
        }
        Check.holds("there is no version 0 to tamper with", !x.tamper(0, 0, 0));
        Check.same("NONE", AsOfLedger.NONE, -1);
        objectsAreApart();
        Check.end();
    }

    private static void objectsAreApart() {
        AsOfLedger one = new AsOfLedger();
        AsOfLedger other = new AsOfLedger();
        one.post(0, 1, 7, 3);
        one.tamper(0, 4, 8);
        Check.same("clock() of the other", other.clock(), 0);
        Check.same("entries() of the other", other.entries(), 0);
        Check.same("verify() of the other", other.verify(), 0);
    }
}
