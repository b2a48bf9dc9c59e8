import java.util.NoSuchElementException;

/** Promise 4: annul. */
public final class AnnulTest {
    public static void main(String[] args) {
        givesAVoidVersion();
        refusesMissingAndVoidEntries();
        namesTheFirstException();
        Check.end();
    }

    private static void givesAVoidVersion() {
        AsOfLedger x = new AsOfLedger();
        x.post(1, 2, 100, 10);
        x.post(3, 4, 50, 20);
        x.correct(1, 60);
        Check.same("annul(1)", x.annul(1), 3);
        Check.same("annul(0)", x.annul(0), 4);
        int[] due = {2, 1, 3, 4, 0, 20};
        for (int k = 0; k < due.length; k++) {
            Check.same("field(1, " + k + ", 5)", x.field(1, k, 5), due[k]);
        }
        Check.same("entries()", x.entries(), 2);
        Check.same("turnover(3)", x.turnover(3), 0);
        Check.same("balance(3, 999, 3)", x.balance(3, 999, 3), 60);
        Check.same("balance(3, 999, 4)", x.balance(3, 999, 4), 0);
    }

    private static void refusesMissingAndVoidEntries() {
        Check.refusedWhole("annul(0) of none", NoSuchElementException.class, AsOfLedger::new, x -> x.annul(0));
        for (int entry : new int[] {-1, 1, 2, 64, 2147483647, -2147483648}) {
            Check.refusedWhole("annul(" + entry + ")", NoSuchElementException.class, AnnulTest::withAVoidOne,
                    x -> x.annul(entry));
        }
    }

    private static AsOfLedger withAVoidOne() {
        AsOfLedger x = new AsOfLedger();
        x.post(0, 1, 5, 0);
        x.post(0, 1, 5, 0);
        x.annul(1);
        x.open(1, 0, 999, 2);
        x.next();
        return x;
    }

    private static AsOfLedger full() {
        AsOfLedger x = withAVoidOne();
        while (x.clock() < 64) {
            x.correct(0, 5);
        }
        return x;
    }

    private static void namesTheFirstException() {
        Check.refusedWhole("full", UnsupportedOperationException.class, AnnulTest::full, x -> x.annul(0));
        AsOfLedger x = full();
        Check.refused("void before full", NoSuchElementException.class, () -> x.annul(1));
        Check.refused("no such entry before full", NoSuchElementException.class, () -> x.annul(2));
        x.tamper(0, 0, 0);
        Check.refused("state before all else", IllegalStateException.class, () -> x.annul(2));
    }
}
