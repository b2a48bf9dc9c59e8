/** What README.md shows of the class: its example, call by call, with the answers that it tells. */
public final class ReadmeTest {
    public static void main(String[] args) {
        Check.sentence("How to use it", ReadmeTest::answersAsTheExampleTells);
        Check.end();
    }

    private static void answersAsTheExampleTells() {
        AsOfLedger ledger = new AsOfLedger();
        int rent = ledger.post(1, 2, 100, 10);
        int food = ledger.post(3, 1, 20, 5);
        int before = ledger.clock();
        Check.same("clock()", before, 2);
        Check.same("correct(rent, 70)", ledger.correct(rent, 70), 2);
        Check.same("what was known then", ledger.balance(1, 999, before), 80);
        Check.same("what is known now", ledger.balance(1, 999, ledger.clock()), 50);
        Check.same("turnover(1)", ledger.turnover(1), 90);

        Check.same("open(1, 0, 999, clock())", ledger.open(1, 0, 999, ledger.clock()), 2);
        Check.same("the first entry", ledger.next(), food);
        Check.same("what it puts to the account", ledger.moved(), -20);
        Check.same("the second entry", ledger.next(), rent);
        Check.same("what it puts to the account", ledger.moved(), 70);
        Check.same("behind the last entry", ledger.next(), AsOfLedger.NONE);

        Check.same("annul(food)", ledger.annul(food), 3);
        Check.same("its amount now", ledger.field(food, 4, ledger.clock()), 0);
        Check.same("its amount then", ledger.field(food, 4, before), 20);

        Check.same("verify()", ledger.verify(), 0);
        Check.holds("tamper(0, 4, 1) is true", ledger.tamper(0, 4, 1));
        Check.same("verify() once tampered", ledger.verify(), 1);
        Check.refused("turnover(1) once tampered", IllegalStateException.class, () -> ledger.turnover(1));
    }
}
