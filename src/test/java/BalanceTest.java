/** Promise 5: balance. */
public final class BalanceTest {
    private static final int MAX = Made.MAX;
    private static final int MIN = Made.MIN;

    public static void main(String[] args) {
        Check.sentence("The balance of an account", BalanceTest::takesDebitsLessCredits);
        Check.sentence("The balance of an account: at the ends of what an int holds", BalanceTest::takesTheLargest);
        Check.sentence("for a day", BalanceTest::takesNoLaterDay);
        Check.sentence("at time t", BalanceTest::takesWhatWasKnown);
        Check.sentence("account is out of its range", BalanceTest::refusesAccounts);
        Check.sentence("day is out of its range", BalanceTest::refusesDays);
        Check.sentence("t is out of its range", BalanceTest::refusesTimes);
        Check.end();
    }

    private static void balanced(AsOfLedger x, int account, int day, int t, int due) {
        Check.same("balance(" + account + ", " + day + ", " + t + ")", x.balance(account, day, t), due);
    }

    private static void takesDebitsLessCredits() {
        AsOfLedger x = new AsOfLedger();
        x.post(1, 2, 100, 10);
        x.post(2, 1, 30, 5);
        x.post(1, 3, 4, 7);
        balanced(x, 1, 999, 3, 74);
        balanced(x, 2, 999, 3, -70);
        balanced(x, 3, 999, 3, -4);
        balanced(x, 0, 999, 3, 0);
    }

    private static void takesTheLargest() {
        AsOfLedger x = new AsOfLedger();
        x.post(0, 15, MAX, 0);
        x.post(14, 13, MAX - 1, 0);
        x.post(14, 13, 1, 0);
        balanced(x, 0, 0, 3, MAX);
        balanced(x, 15, 0, 3, -MAX);
        balanced(x, 14, 0, 3, MAX);
        balanced(x, 13, 0, 3, -MAX);
    }

    private static void takesNoLaterDay() {
        AsOfLedger x = new AsOfLedger();
        x.post(1, 2, 100, 10);
        x.post(1, 2, 30, 0);
        x.post(1, 2, 4, 999);
        int[][] due = {{0, 30}, {9, 30}, {10, 130}, {11, 130}, {998, 130}, {999, 134}};
        for (int[] d : due) {
            balanced(x, 1, d[0], 3, d[1]);
            balanced(x, 2, d[0], 3, -d[1]);
        }
    }

    private static void takesWhatWasKnown() {
        AsOfLedger x = Made.underWay();
        int[] due = {0, 100, 80, 40, 60, 67};
        for (int t = 0; t < due.length; t++) {
            balanced(x, 1, 999, t, due[t]);
        }
        balanced(x, 1, 9, 3, -20);
        balanced(x, 1, 9, 4, 0);
    }

    private static void refuses(int account, int day, int t) {
        Check.refusedWhole("balance(" + account + ", " + day + ", " + t + ")", IllegalArgumentException.class,
                Made::underWay, x -> x.balance(account, day, t));
    }

    private static void refusesAccounts() {
        for (int account : new int[] {-1, 16, MIN, MAX}) {
            refuses(account, 0, 0);
        }
        balanced(Made.underWay(), 0, 0, 5, 0);
        balanced(Made.underWay(), 15, 0, 5, 0);
    }

    private static void refusesDays() {
        for (int day : new int[] {-1, 1000, MIN, MAX}) {
            refuses(0, day, 0);
        }
        balanced(Made.underWay(), 1, 0, 5, 0);
        balanced(Made.underWay(), 1, 999, 5, 67);
    }

    private static void refusesTimes() {
        for (int t : new int[] {-1, 6, 64, MIN, MAX}) {
            refuses(0, 0, t);
        }
        balanced(Made.underWay(), 1, 999, 0, 0);
        balanced(Made.underWay(), 1, 999, 5, 67);
        balanced(Made.full(), 1, 999, 64, 67);
        Check.refused("behind the last of 64", IllegalArgumentException.class, () -> Made.full().balance(1, 999, 65));
    }
}
