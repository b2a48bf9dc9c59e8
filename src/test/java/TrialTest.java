/** Promise 6: trial. */
public final class TrialTest {
    private static final int MAX = Made.MAX;
    private static final int MIN = Made.MIN;

    public static void main(String[] args) {
        Check.sentence("The sum of the balances of all accounts for a day at time t", TrialTest::sumsTheBalances);
        Check.sentence("The sum of the balances: where a part of it is above an int", TrialTest::sumsLargeBalances);
        Check.sentence("day is out of its range", TrialTest::refusesDays);
        Check.sentence("t is out of its range", TrialTest::refusesTimes);
        Check.end();
    }

    private static void sumsTheBalances() {
        AsOfLedger x = Made.underWay();
        for (int t = 0; t <= 5; t++) {
            for (int day : new int[] {0, 4, 5, 9, 10, 999}) {
                int sum = 0;
                for (int account = 0; account < 5; account++) {
                    sum += x.balance(account, day, t);
                }
                Check.same("trial(" + day + ", " + t + ")", x.trial(day, t), sum);
                Check.same("the sum", sum, 0);
            }
        }
    }

    private static void sumsLargeBalances() {
        AsOfLedger x = new AsOfLedger();
        for (int pair = 0; pair < 8; pair++) {
            x.post(pair, 15 - pair, MAX, pair);
        }
        for (int t = 0; t <= 8; t++) {
            Check.same("trial(3, " + t + ")", x.trial(3, t), 0);
            Check.same("trial(999, " + t + ")", x.trial(999, t), 0);
        }
    }

    private static void refuses(int day, int t) {
        Check.refusedWhole("trial(" + day + ", " + t + ")", IllegalArgumentException.class, Made::underWay,
                x -> x.trial(day, t));
    }

    private static void refusesDays() {
        for (int day : new int[] {-1, 1000, MIN, MAX}) {
            refuses(day, 0);
        }
        Check.same("trial(0, 5)", Made.underWay().trial(0, 5), 0);
        Check.same("trial(999, 5)", Made.underWay().trial(999, 5), 0);
    }

    private static void refusesTimes() {
        for (int t : new int[] {-1, 6, 64, MIN, MAX}) {
            refuses(0, t);
        }
        Check.same("trial(999, 0)", Made.underWay().trial(999, 0), 0);
        Check.same("trial(999, 64)", Made.full().trial(999, 64), 0);
        Check.refused("behind the last of 64", IllegalArgumentException.class, () -> Made.full().trial(999, 65));
    }
}
