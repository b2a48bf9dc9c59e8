import java.util.NoSuchElementException;

/** Promise 3: correct. */
public final class CorrectTest {
    private static final int MAX = Made.MAX;
    private static final int MIN = Made.MIN;

    public static void main(String[] args) {
        Check.sentence("The entry gets a version, CORRECTED, with this amount.", CorrectTest::givesAVersion);
        Check.sentence("Answers the version's number.", CorrectTest::answersTheVersionsNumber);
        Check.sentence("there is no such entry", CorrectTest::refusesMissingEntries);
        Check.sentence("or it is void", CorrectTest::refusesVoidEntries);
        Check.sentence("amount is below 1", CorrectTest::refusesAmountsBelowOne);
        Check.sentence("there are 64 versions", CorrectTest::refusesTheSixtyFifthVersion);
        Check.sentence("a turnover would be above 2147483647: the debited one's",
                CorrectTest::refusesTurnoverOfTheDebited);
        Check.sentence("a turnover would be above 2147483647: the credited one's",
                CorrectTest::refusesTurnoverOfTheCredited);
        Check.sentence("a turnover would be above 2147483647: not at it", CorrectTest::takesTheHighestTurnover);
        Check.sentence("a turnover would be above 2147483647: without the old amount",
                CorrectTest::takesOffTheOldAmount);
        Check.end();
    }

    private static void givesAVersion() {
        AsOfLedger x = Made.underWay();
        x.correct(2, 70);
        int[] due = {1, 2, 1, 4, 70, 10};
        for (int k = 0; k < due.length; k++) {
            Check.same("field(2, " + k + ", 6)", x.field(2, k, 6), due[k]);
        }
        Check.same("entries()", x.entries(), 3);
        Check.same("clock()", x.clock(), 6);
        Check.same("balance(4, 10, 6)", x.balance(4, 10, 6), -70);
        Check.same("balance(4, 10, 5), as it was known before", x.balance(4, 10, 5), -7);
    }

    private static void answersTheVersionsNumber() {
        AsOfLedger x = Made.underWay();
        Check.same("correct(2, 70)", x.correct(2, 70), 5);
        Check.same("correct(2, 70) to the same amount", x.correct(2, 70), 6);
        Check.same("correct(0, 1) a second time", x.correct(0, 1), 7);
    }

    private static void refusesMissingEntries() {
        Check.refusedWhole("correct(0, 1) of none", NoSuchElementException.class, AsOfLedger::new,
                x -> x.correct(0, 1));
        // Behind the entries, yet not behind the versions: numbers of the one are not those of the other.
        for (int entry : new int[] {-1, 3, 4, 5, 64, MAX, MIN}) {
            Check.refusedWhole("correct(" + entry + ", 1)", NoSuchElementException.class, Made::underWay,
                    x -> x.correct(entry, 1));
        }
        Check.same("correct(2, 1), the last entry", Made.underWay().correct(2, 1), 5);
    }

    private static void refusesVoidEntries() {
        Check.refusedWhole("correct(1, 20)", NoSuchElementException.class, Made::underWay, x -> x.correct(1, 20));
        Check.refusedWhole("of a corrected one", NoSuchElementException.class, CorrectTest::correctedThenVoid,
                x -> x.correct(0, 60));
    }

    private static AsOfLedger correctedThenVoid() {
        AsOfLedger x = Made.underWay();
        x.annul(0);
        x.correct(2, 8);
        return x;
    }

    private static void refusesAmountsBelowOne() {
        for (int amount : new int[] {0, -1, -MAX, MIN}) {
            Check.refusedWhole("correct(0, " + amount + ")", IllegalArgumentException.class, Made::underWay,
                    x -> x.correct(0, amount));
        }
        AsOfLedger x = Made.underWay();
        Check.same("correct(0, 1)", x.correct(0, 1), 5);
        Check.same("correct(0, 2147483640)", x.correct(0, MAX - 7), 6);
    }

    private static void refusesTheSixtyFifthVersion() {
        Check.same("the 64th", Made.versions(63).correct(2, 7), 63);
        Check.refusedWhole("the 65th", UnsupportedOperationException.class, Made::full, x -> x.correct(2, 7));
        Check.refusedWhole("of an entry with one version", UnsupportedOperationException.class, Made::full,
                x -> x.correct(3, 1));
    }

    private static void refusesTurnover(int entry, int amount) {
        Check.refusedWhole("correct(" + entry + ", " + amount + ")", ArithmeticException.class,
                CorrectTest::nearlyFilled, x -> x.correct(entry, amount));
    }

    // Accounts 1 and 2 have room for 10 more each, but no entry is of both.
    private static AsOfLedger nearlyFilled() {
        AsOfLedger x = new AsOfLedger();
        x.post(1, 3, MAX - 15, 0);
        x.post(4, 2, MAX - 15, 0);
        x.post(1, 5, 5, 0);
        x.post(6, 2, 5, 0);
        x.open(1, 0, 999, 4);
        return x;
    }

    private static void refusesTurnoverOfTheDebited() {
        refusesTurnover(2, 16);
        refusesTurnover(2, MAX);
        refusesTurnover(0, MAX - 4);
        refusesTurnover(0, MAX);
    }

    private static void refusesTurnoverOfTheCredited() {
        refusesTurnover(3, 16);
        refusesTurnover(3, MAX);
        refusesTurnover(1, MAX - 4);
        refusesTurnover(1, MAX);
    }

    private static void takesTheHighestTurnover() {
        AsOfLedger x = nearlyFilled();
        Check.same("correct(2, 15)", x.correct(2, 15), 4);
        Check.same("turnover(1)", x.turnover(1), MAX);
        Check.same("correct(3, 15)", x.correct(3, 15), 5);
        Check.same("turnover(2)", x.turnover(2), MAX);
    }

    private static void takesOffTheOldAmount() {
        AsOfLedger x = Made.filledTurnover();
        Check.same("to the same amount at the highest turnover", x.correct(3, MAX - 1), 7);
        Check.refused("one more", ArithmeticException.class, () -> x.correct(3, MAX));
        Check.same("lower", x.correct(3, 1), 8);
        Check.same("the room is free again", x.correct(4, MAX - 1), 9);
        Check.same("turnover(5)", x.turnover(5), MAX);
    }
}
