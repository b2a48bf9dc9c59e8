/** Promise 2: post. */
public final class PostTest {
    private static final int MAX = Made.MAX;
    private static final int MIN = Made.MIN;

    public static void main(String[] args) {
        Check.sentence("Posts an entry.", PostTest::postsAnEntry);
        Check.sentence("Answers its number.", PostTest::answersTheEntrysNumber);
        Check.sentence("an account is out of its range: the debited one", PostTest::refusesDebits);
        Check.sentence("an account is out of its range: the credited one", PostTest::refusesCredits);
        Check.sentence("the day is out of its range", PostTest::refusesDays);
        Check.sentence("both accounts are the same", PostTest::refusesTheSameAccount);
        Check.sentence("amount is below 1", PostTest::refusesAmountsBelowOne);
        Check.sentence("there are 64 versions", PostTest::refusesTheSixtyFifthVersion);
        Check.sentence("there are 64 versions: of few entries too", PostTest::countsVersionsNotEntries);
        Check.sentence("a turnover would be above 2147483647: the debited one's",
                PostTest::refusesTurnoverOfTheDebited);
        Check.sentence("a turnover would be above 2147483647: the credited one's",
                PostTest::refusesTurnoverOfTheCredited);
        Check.sentence("a turnover would be above 2147483647: not at it", PostTest::takesTheHighestTurnover);
        Check.sentence("a turnover would be above 2147483647: what is void is none", PostTest::forgetsVoidTurnover);
        Check.end();
    }

    private static void postsAnEntry() {
        AsOfLedger x = Made.underWay();
        x.post(3, 4, 6, 9);
        int[] due = {0, 3, 3, 4, 6, 9};
        for (int k = 0; k < due.length; k++) {
            Check.same("field(3, " + k + ", 6)", x.field(3, k, 6), due[k]);
        }
        Check.same("entries()", x.entries(), 4);
        Check.same("clock()", x.clock(), 6);
    }

    private static void answersTheEntrysNumber() {
        AsOfLedger x = new AsOfLedger();
        Check.same("the first", x.post(1, 2, 100, 10), 0);
        Check.same("the second", x.post(2, 1, 5, 3), 1);
        x.correct(0, 90);
        x.annul(1);
        Check.same("behind other versions: the entry's number, not the version's", x.post(3, 4, 6, 9), 2);
    }

    private static void refuses(Class<? extends RuntimeException> due, int debit, int credit, int amount, int day) {
        Check.refusedWhole("post(" + debit + ", " + credit + ", " + amount + ", " + day + ")", due,
                Made::filledTurnover, x -> x.post(debit, credit, amount, day));
    }

    private static void refusesDebits() {
        for (int account : new int[] {-1, 16, MIN, MAX}) {
            refuses(IllegalArgumentException.class, account, 1, 1, 1);
        }
        AsOfLedger x = new AsOfLedger();
        Check.same("debit 0", x.post(0, 1, 1, 1), 0);
        Check.same("debit 15", x.post(15, 1, 1, 1), 1);
    }

    private static void refusesCredits() {
        for (int account : new int[] {-1, 16, MIN, MAX}) {
            refuses(IllegalArgumentException.class, 1, account, 1, 1);
        }
        AsOfLedger x = new AsOfLedger();
        Check.same("credit 0", x.post(1, 0, 1, 1), 0);
        Check.same("credit 15", x.post(1, 15, 1, 1), 1);
    }

    private static void refusesDays() {
        for (int day : new int[] {-1, 1000, MIN, MAX}) {
            refuses(IllegalArgumentException.class, 0, 1, 1, day);
        }
        AsOfLedger x = new AsOfLedger();
        Check.same("day 0", x.post(0, 1, 1, 0), 0);
        Check.same("day 999", x.post(0, 1, 1, 999), 1);
    }

    private static void refusesTheSameAccount() {
        for (int account = 0; account < 16; account++) {
            refuses(IllegalArgumentException.class, account, account, 1, 1);
        }
    }

    private static void refusesAmountsBelowOne() {
        for (int amount : new int[] {0, -1, -MAX, MIN}) {
            refuses(IllegalArgumentException.class, 0, 1, amount, 1);
        }
        AsOfLedger x = new AsOfLedger();
        Check.same("amount 1", x.post(0, 1, 1, 1), 0);
        Check.same("amount 2147483647", x.post(2, 3, MAX, 1), 1);
    }

    private static AsOfLedger allPosted(int count) {
        AsOfLedger x = new AsOfLedger();
        for (int entry = 0; entry < count; entry++) {
            x.post(entry % 15, 15, 1, entry);
        }
        return x;
    }

    private static void refusesTheSixtyFifthVersion() {
        Check.same("the 64th", allPosted(63).post(0, 1, 1, 1), 63);
        Check.refusedWhole("the 65th", UnsupportedOperationException.class, () -> allPosted(64),
                x -> x.post(0, 1, 1, 1));
    }

    private static void countsVersionsNotEntries() {
        Check.same("the 64th", Made.versions(63).post(0, 1, 1, 1), 5);
        Check.refusedWhole("the 65th", UnsupportedOperationException.class, Made::full, x -> x.post(0, 1, 1, 1));
    }

    private static void refusesTurnoverOfTheDebited() {
        refuses(ArithmeticException.class, 5, 0, 1, 0);
        refuses(ArithmeticException.class, 5, 0, MAX, 0);
        refuses(ArithmeticException.class, 6, 0, 2, 999);
        refuses(ArithmeticException.class, 7, 0, MAX, 0);
    }

    private static void refusesTurnoverOfTheCredited() {
        refuses(ArithmeticException.class, 0, 5, 1, 0);
        refuses(ArithmeticException.class, 0, 5, MAX, 0);
        refuses(ArithmeticException.class, 0, 6, 2, 999);
        refuses(ArithmeticException.class, 0, 7, MAX, 0);
    }

    private static void takesTheHighestTurnover() {
        AsOfLedger x = Made.filledTurnover();
        Check.same("debit 6 to the highest", x.post(6, 0, 1, 0), 5);
        Check.same("turnover(6)", x.turnover(6), MAX);
        Check.same("credit 7 to the highest", x.post(0, 7, MAX - 1, 0), 6);
        Check.same("turnover(7)", x.turnover(7), MAX);
        Check.same("turnover(0)", x.turnover(0), MAX);
    }

    private static void forgetsVoidTurnover() {
        AsOfLedger x = Made.filledTurnover();
        x.annul(3);
        Check.same("the room is free again", x.post(5, 6, MAX - 1, 0), 5);
        Check.refused("and no more of it", ArithmeticException.class, () -> x.post(5, 6, 1, 0));
    }
}
