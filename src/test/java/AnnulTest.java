import java.util.NoSuchElementException;

/** Promise 4: annul. */
public final class AnnulTest {
    public static void main(String[] args) {
        Check.sentence("The entry gets a version, VOIDED.", AnnulTest::givesAVoidVersion);
        Check.sentence("Answers the version's number.", AnnulTest::answersTheVersionsNumber);
        Check.sentence("there is no such entry", AnnulTest::refusesMissingEntries);
        Check.sentence("or it is void", AnnulTest::refusesVoidEntries);
        Check.sentence("there are 64 versions", AnnulTest::refusesTheSixtyFifthVersion);
        Check.sentence("no turnover is too high for it", AnnulTest::takesTheHighestTurnover);
        Check.end();
    }

    private static void givesAVoidVersion() {
        AsOfLedger x = Made.underWay();
        x.annul(0);
        int[] due = {2, 0, 1, 2, 0, 10};
        for (int k = 0; k < due.length; k++) {
            Check.same("field(0, " + k + ", 6)", x.field(0, k, 6), due[k]);
        }
        Check.same("entries()", x.entries(), 3);
        Check.same("clock()", x.clock(), 6);
        Check.same("turnover(2)", x.turnover(2), 0);
        Check.same("balance(2, 999, 5)", x.balance(2, 999, 5), -60);
        Check.same("balance(2, 999, 6)", x.balance(2, 999, 6), 0);
    }

    private static void answersTheVersionsNumber() {
        AsOfLedger x = Made.underWay();
        Check.same("annul(2), as it was posted", x.annul(2), 5);
        Check.same("annul(0), which was corrected", x.annul(0), 6);
    }

    private static void refusesMissingEntries() {
        Check.refusedWhole("annul(0) of none", NoSuchElementException.class, AsOfLedger::new, x -> x.annul(0));
        for (int entry : new int[] {-1, 3, 4, 5, 64, Made.MAX, Made.MIN}) {
            Check.refusedWhole("annul(" + entry + ")", NoSuchElementException.class, Made::underWay,
                    x -> x.annul(entry));
        }
        Check.same("annul(2), the last entry", Made.underWay().annul(2), 5);
    }

    private static void refusesVoidEntries() {
        Check.refusedWhole("annul(1)", NoSuchElementException.class, Made::underWay, x -> x.annul(1));
    }

    private static void refusesTheSixtyFifthVersion() {
        Check.same("the 64th", Made.versions(63).annul(2), 63);
        Check.refusedWhole("the 65th", UnsupportedOperationException.class, Made::full, x -> x.annul(2));
    }

    private static void takesTheHighestTurnover() {
        AsOfLedger x = Made.filledTurnover();
        Check.same("annul(3)", x.annul(3), 7);
        Check.same("turnover(5)", x.turnover(5), 1);
    }
}
