/** Promises 5, 6 and 7: balance, trial and turnover. */
public final class BalanceTest {
    private static final int MAX = 2147483647;

    public static void main(String[] args) {
        balancesByDayAndTime();
        balancesAtTheEdges();
        refusesWrongBalances();
        sumsTheTrial();
        refusesWrongTrials();
        sumsTheTurnover();
        refusesWrongTurnovers();
        Check.end();
    }

    private static void balancesByDayAndTime() {
        AsOfLedger x = new AsOfLedger();
        x.post(1, 2, 100, 10);
        x.post(2, 1, 30, 5);
        x.correct(0, 70);
        x.annul(1);
        long[][] due = {
            // account, day, t, balance
            {1, 999, 0, 0}, {1, 999, 1, 100}, {1, 999, 2, 70}, {1, 999, 3, 40}, {1, 999, 4, 70},
            {1, 9, 1, 0}, {1, 10, 1, 100}, {1, 4, 2, 0}, {1, 5, 2, -30}, {1, 9, 3, -30}, {1, 9, 4, 0},
            {2, 999, 3, -40}, {2, 5, 3, 30}, {3, 999, 4, 0},
        };
        for (long[] d : due) {
            Check.same("balance(" + d[0] + ", " + d[1] + ", " + d[2] + ")",
                    x.balance((int) d[0], (int) d[1], (int) d[2]), d[3]);
        }
    }

    private static void balancesAtTheEdges() {
        AsOfLedger x = new AsOfLedger();
        x.post(0, 15, MAX, 0);
        x.post(14, 13, MAX, 999);
        Check.same("balance(0, 0, 2)", x.balance(0, 0, 2), MAX);
        Check.same("balance(15, 0, 2)", x.balance(15, 0, 2), -MAX);
        Check.same("balance(14, 998, 2)", x.balance(14, 998, 2), 0);
        Check.same("balance(14, 999, 2)", x.balance(14, 999, 2), MAX);
    }

    private static void refusesWrongBalances() {
        int[][] wrong = {{-1, 0, 0}, {16, 0, 0}, {0, -1, 0}, {0, 1000, 0}, {0, 0, -1}, {0, 0, 2}, {0, 0, MAX},
            {-2147483648, 0, 0}, {0, -2147483648, 0}, {0, 0, -2147483648}};
        for (int[] w : wrong) {
            Check.refusedWhole("balance(" + w[0] + ", " + w[1] + ", " + w[2] + ")", IllegalArgumentException.class,
                    BalanceTest::opened, x -> x.balance(w[0], w[1], w[2]));
        }
        AsOfLedger x = opened();
        x.tamper(0, 0, 0);
        Check.refused("tampered", IllegalStateException.class, () -> x.balance(-1, 0, 0));
    }

    private static AsOfLedger opened() {
        AsOfLedger x = new AsOfLedger();
        x.post(0, 1, 5, 5);
        x.open(0, 0, 999, 1);
        x.next();
        return x;
    }

    private static void sumsTheTrial() {
        AsOfLedger x = new AsOfLedger();
        x.post(0, 15, MAX, 3);
        x.post(1, 14, MAX, 4);
        x.post(2, 13, MAX, 4);
        x.correct(1, 9);
        for (int t = 0; t <= 4; t++) {
            Check.same("trial(3, " + t + ")", x.trial(3, t), 0);
            Check.same("trial(999, " + t + ")", x.trial(999, t), 0);
        }
    }

    private static void refusesWrongTrials() {
        int[][] wrong = {{-1, 0}, {1000, 0}, {0, -1}, {0, 2}, {MAX, 0}, {0, MAX}, {0, -2147483648}};
        for (int[] w : wrong) {
            Check.refusedWhole("trial(" + w[0] + ", " + w[1] + ")", IllegalArgumentException.class,
                    BalanceTest::opened, x -> x.trial(w[0], w[1]));
        }
        AsOfLedger x = opened();
        x.tamper(0, 0, 0);
        Check.refused("tampered", IllegalStateException.class, () -> x.trial(-1, 0));
    }

    private static void sumsTheTurnover() {
        AsOfLedger x = new AsOfLedger();
        x.post(1, 2, 100, 999);
        x.post(2, 1, 30, 0);
        x.post(2, 3, 4, 7);
        Check.same("turnover(1)", x.turnover(1), 130);
        Check.same("turnover(2)", x.turnover(2), 134);
        x.correct(0, 10);
        x.annul(2);
        Check.same("turnover(1) now", x.turnover(1), 40);
        Check.same("turnover(2) now", x.turnover(2), 40);
        Check.same("turnover(3) now", x.turnover(3), 0);
        Check.same("turnover(0)", x.turnover(0), 0);
        Check.same("turnover(15)", x.turnover(15), 0);
    }

    private static void refusesWrongTurnovers() {
        for (int account : new int[] {-1, 16, MAX, -2147483648}) {
            Check.refusedWhole("turnover(" + account + ")", IllegalArgumentException.class, BalanceTest::opened,
                    x -> x.turnover(account));
        }
        AsOfLedger x = opened();
        x.tamper(0, 0, 0);
        Check.refused("tampered", IllegalStateException.class, () -> x.turnover(-1));
    }
}
