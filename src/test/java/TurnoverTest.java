/** Promise 7: turnover. */
public final class TurnoverTest {
    public static void main(String[] args) {
        Check.sentence("The turnover of an account.", TurnoverTest::addsDebitsAndCredits);
        Check.sentence("The turnover of an account: of all days", TurnoverTest::takesAllDays);
        Check.sentence("The turnover of an account: of what is current now", TurnoverTest::takesWhatIsCurrentNow);
        Check.sentence("The turnover of an account: the highest", TurnoverTest::tellsTheHighest);
        Check.sentence("it is out of its range", TurnoverTest::refusesAccounts);
        Check.end();
    }

    private static void addsDebitsAndCredits() {
        AsOfLedger x = new AsOfLedger();
        x.post(1, 2, 100, 9);
        x.post(2, 1, 30, 9);
        x.post(2, 3, 4, 9);
        Check.same("turnover(1)", x.turnover(1), 130);
        Check.same("turnover(2)", x.turnover(2), 134);
        Check.same("turnover(3)", x.turnover(3), 4);
        Check.same("turnover(0), of no entry", x.turnover(0), 0);
    }

    private static void takesAllDays() {
        AsOfLedger x = new AsOfLedger();
        x.post(1, 2, 100, 999);
        x.post(1, 2, 30, 0);
        Check.same("turnover(1)", x.turnover(1), 130);
    }

    private static void takesWhatIsCurrentNow() {
        AsOfLedger x = Made.underWay();
        Check.same("turnover(1)", x.turnover(1), 67);
        Check.same("turnover(2), corrected from 100", x.turnover(2), 60);
        Check.same("turnover(3), of a void entry alone", x.turnover(3), 0);
        x.correct(0, 61);
        Check.same("turnover(2), corrected again", x.turnover(2), 61);
    }

    private static void tellsTheHighest() {
        AsOfLedger x = new AsOfLedger();
        x.post(0, 15, Made.MAX - 1, 0);
        x.post(15, 0, 1, 0);
        Check.same("turnover(0)", x.turnover(0), Made.MAX);
        Check.same("turnover(15)", x.turnover(15), Made.MAX);
        Check.same("turnover(5) of a full ledger", Made.full().turnover(5), Made.MAX);
    }

    private static void refusesAccounts() {
        for (int account : new int[] {-1, 16, Made.MIN, Made.MAX}) {
            Check.refusedWhole("turnover(" + account + ")", IllegalArgumentException.class, Made::underWay,
                    x -> x.turnover(account));
        }
        Check.same("turnover(0)", Made.underWay().turnover(0), 0);
        Check.same("turnover(15)", Made.underWay().turnover(15), 0);
    }
}
