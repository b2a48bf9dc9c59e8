import java.util.NoSuchElementException;

/** Promise 3: correct. */
public final class CorrectTest {
    private static final int MAX = 2147483647;

    public static void main(String[] args) {
        givesAVersion();
        refusesMissingAndVoidEntries();
        refusesTooMuchTurnover();
        refusesWrongAmounts();
        namesTheFirstException();
        Check.end();
    }

    private static void givesAVersion() {
        AsOfLedger x = new AsOfLedger();
        x.post(1, 2, 100, 10);
        x.post(3, 4, 50, 20);
        Check.same("correct(1, 70)", x.correct(1, 70), 2);
        Check.same("correct(1, 70) again", x.correct(1, 70), 3);
        Check.same("correct(0, 1)", x.correct(0, 1), 4);
        int[] due = {1, 1, 3, 4, 70, 20};
        for (int k = 0; k < due.length; k++) {
            Check.same("field(1, " + k + ", 5)", x.field(1, k, 5), due[k]);
        }
        Check.same("entries()", x.entries(), 2);
        Check.same("clock()", x.clock(), 5);
        Check.same("balance(3, 20, 5)", x.balance(3, 20, 5), 70);
        Check.same("balance(3, 20, 2), as it was known before", x.balance(3, 20, 2), 50);
    }

    private static void refusesMissingAndVoidEntries() {
        Check.refusedWhole("correct(0, 1) of none", NoSuchElementException.class, AsOfLedger::new,
                x -> x.correct(0, 1));
        for (int entry : new int[] {-1, 1, 2, 3, 64, MAX, -2147483648}) {
            Check.refusedWhole("correct(" + entry + ", 1)", NoSuchElementException.class, CorrectTest::withAVoidOne,
                    x -> x.correct(entry, 1));
        }
    }

    private static AsOfLedger withAVoidOne() {
        AsOfLedger x = new AsOfLedger();
        x.post(1, 2, 100, 10);
        x.correct(0, 5);
        x.post(1, 2, 100, 10);
        x.annul(1);
        x.open(1, 0, 999, 3);
        x.next();
        return x;
    }

    private static void refusesTooMuchTurnover() {
        refusesTurnover("the debited one too high", 1, 11);
        refusesTurnover("the credited one too high", 2, 11);
        refusesTurnover("both too high", 0, MAX);
        AsOfLedger x = nearlyTooMuch();
        Check.same("the old amount is taken off first", x.correct(1, 10), 3);
        Check.same("turnover(0)", x.turnover(0), MAX);
        Check.same("to the same amount", x.correct(0, MAX - 10), 4);
        Check.same("lower", x.correct(0, 1), 5);
        Check.same("the room is free again", x.correct(1, MAX - 1), 6);
    }

    private static AsOfLedger nearlyTooMuch() {
        AsOfLedger x = new AsOfLedger();
        x.post(0, 1, MAX - 10, 0);
        x.post(0, 2, 5, 0);
        x.post(3, 1, 5, 0);
        return x;
    }

    private static void refusesTurnover(String what, int entry, int amount) {
        Check.refusedWhole(what, ArithmeticException.class, CorrectTest::nearlyTooMuch, x -> x.correct(entry, amount));
    }

    private static void refusesWrongAmounts() {
        for (int amount : new int[] {0, -1, -2147483648}) {
            Check.refusedWhole("correct(0, " + amount + ")", IllegalArgumentException.class, CorrectTest::withAVoidOne,
                    x -> x.correct(0, amount));
        }
    }

    private static AsOfLedger full() {
        AsOfLedger x = withAVoidOne();
        x.post(1, 2, MAX - 5, 10);
        x.post(3, 4, 1, 0);
        while (x.clock() < 64) {
            x.correct(3, 1);
        }
        return x;
    }

    private static void namesTheFirstException() {
        AsOfLedger y = withAVoidOne();
        Check.refused("no such entry before amount", NoSuchElementException.class, () -> y.correct(9, 0));
        Check.refused("void before amount", NoSuchElementException.class, () -> y.correct(1, 0));
        Check.refusedWhole("full", UnsupportedOperationException.class, CorrectTest::full, x -> x.correct(3, 1));
        AsOfLedger x = full();
        Check.refused("no such entry before full", NoSuchElementException.class, () -> x.correct(4, 1));
        Check.refused("void before full", NoSuchElementException.class, () -> x.correct(1, 1));
        Check.refused("amount before full", IllegalArgumentException.class, () -> x.correct(3, 0));
        Check.refused("full before turnover", UnsupportedOperationException.class, () -> x.correct(0, MAX));
        x.tamper(0, 0, 0);
        Check.refused("state before all else", IllegalStateException.class, () -> x.correct(9, 0));
    }
}
