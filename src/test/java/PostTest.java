/** Promise 2: post. */
public final class PostTest {
    private static final int MAX = 2147483647;

    public static void main(String[] args) {
        postsAndNumbers();
        takesTheEdges();
        refusesWrongArguments();
        refusesTheSixtyFifthVersion();
        refusesTooMuchTurnover();
        namesTheFirstException();
        Check.end();
    }

    private static void postsAndNumbers() {
        AsOfLedger x = new AsOfLedger();
        Check.same("post(1, 2, 100, 10)", x.post(1, 2, 100, 10), 0);
        Check.same("post(2, 1, 5, 3)", x.post(2, 1, 5, 3), 1);
        x.correct(0, 90);
        Check.same("post behind a correction answers the entry, not the version", x.post(3, 4, 6, 9), 2);
        int[] due = {0, 2, 3, 4, 6, 9};
        for (int k = 0; k < due.length; k++) {
            Check.same("field(2, " + k + ", 4)", x.field(2, k, 4), due[k]);
        }
        Check.same("entries()", x.entries(), 3);
        Check.same("clock()", x.clock(), 4);
    }

    private static void takesTheEdges() {
        AsOfLedger x = new AsOfLedger();
        Check.same("post(0, 15, 1, 0)", x.post(0, 15, 1, 0), 0);
        Check.same("post(15, 0, 1, 999)", x.post(15, 0, 1, 999), 1);
        Check.same("post(7, 8, MAX, 500)", x.post(7, 8, MAX, 500), 2);
    }

    private static void refusesWrongArguments() {
        int[][] wrong = {
            {-1, 1, 1, 1}, {16, 1, 1, 1}, {0, -1, 1, 1}, {0, 16, 1, 1}, {3, 3, 1, 1}, {0, 1, 0, 1}, {0, 1, -1, 1},
            {0, 1, 1, -1}, {0, 1, 1, 1000}, {-2147483648, MAX, 1, 1}, {0, 1, -2147483648, 1}, {0, 1, 1, MAX},
            {0, 1, 1, -2147483648}, {MAX, 0, 1, 1},
        };
        for (int[] w : wrong) {
            Check.refusedWhole("post(" + w[0] + ", " + w[1] + ", " + w[2] + ", " + w[3] + ")",
                    IllegalArgumentException.class, PostTest::opened, x -> x.post(w[0], w[1], w[2], w[3]));
        }
    }

    // One with a cursor under way, so that it shows whether a refused call leaves it alone.
    private static AsOfLedger opened() {
        AsOfLedger x = new AsOfLedger();
        x.post(0, 1, 5, 5);
        x.post(0, 2, 6, 7);
        x.open(0, 0, 999, 2);
        x.next();
        return x;
    }

    private static void refusesTheSixtyFifthVersion() {
        Check.refusedWhole("post 64", UnsupportedOperationException.class, PostTest::full, x -> x.post(0, 1, 1, 1));
    }

    private static AsOfLedger full() {
        AsOfLedger x = new AsOfLedger();
        for (int entry = 0; entry < 64; entry++) {
            Check.same("post " + entry, x.post(entry % 15, 15, 1, entry), entry);
        }
        return x;
    }

    private static void refusesTooMuchTurnover() {
        refusesTurnover("the debited one too high", 0, 2, 2);
        refusesTurnover("the credited one too high", 2, 1, 2);
        refusesTurnover("debits and credits add up", 2, 0, 2);
        refusesTurnover("far too high", 1, 0, MAX);
        AsOfLedger x = nearlyTooMuch();
        Check.same("just MAX is fine", x.post(0, 2, 1, 0), 1);
        Check.same("turnover(0)", x.turnover(0), MAX);
        x.annul(0);
        Check.same("a void entry is no turnover", x.post(0, 1, MAX - 1, 0), 2);
    }

    private static AsOfLedger nearlyTooMuch() {
        AsOfLedger x = new AsOfLedger();
        x.post(0, 1, MAX - 1, 0);
        return x;
    }

    private static void refusesTurnover(String what, int debit, int credit, int amount) {
        Check.refusedWhole(what, ArithmeticException.class, PostTest::nearlyTooMuch,
                x -> x.post(debit, credit, amount, 999));
    }

    private static void namesTheFirstException() {
        AsOfLedger x = new AsOfLedger();
        x.post(0, 1, MAX, 0);
        Check.refused("argument before turnover", IllegalArgumentException.class, () -> x.post(0, 0, MAX, 0));
        for (int version = 1; version < 64; version++) {
            x.correct(0, MAX);
        }
        Check.refused("full before turnover", UnsupportedOperationException.class, () -> x.post(0, 1, MAX, 0));
        Check.refused("argument before full", IllegalArgumentException.class, () -> x.post(0, 1, 0, 0));
        x.tamper(0, 0, 0);
        Check.refused("state before all else", IllegalStateException.class, () -> x.post(-1, 1, 0, 0));
    }
}
