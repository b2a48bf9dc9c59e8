/** Promise 13: clock. */
public final class ClockTest {
    public static void main(String[] args) {
        Check.sentence("The clock: how many versions there are", ClockTest::countsVersions);
        Check.sentence("The clock: what makes no version", ClockTest::standsStill);
        Check.sentence("The clock: at most 64", ClockTest::countsSixtyFour);
        Check.end();
    }

    private static void countsVersions() {
        AsOfLedger x = new AsOfLedger();
        Check.same("of none", x.clock(), 0);
        x.post(1, 2, 3, 4);
        Check.same("a post", x.clock(), 1);
        x.correct(0, 3);
        Check.same("a correction to the same amount", x.clock(), 2);
        x.annul(0);
        Check.same("an annulment", x.clock(), 3);
    }

    private static void standsStill() {
        AsOfLedger x = Made.underWay();
        x.open(1, 0, 999, 5);
        x.next();
        x.moved();
        x.balance(1, 999, 5);
        x.trial(999, 5);
        x.turnover(1);
        x.field(0, 0, 5);
        x.entries();
        x.head();
        x.verify();
        x.tamper(5, 0, 0);
        Check.same("after calls that only tell", x.clock(), 5);
        x.tamper(0, 0, 0);
        Check.same("after a tamper", x.clock(), 5);
    }

    private static void countsSixtyFour() {
        AsOfLedger x = Made.full();
        Check.same("of 64", x.clock(), 64);
        Check.refused("the 65th", UnsupportedOperationException.class, () -> x.annul(2));
        Check.same("of 64 still", x.clock(), 64);
    }
}
