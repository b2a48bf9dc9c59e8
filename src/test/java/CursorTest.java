/** Promises 8, 9 and 10: open, next and moved. */
public final class CursorTest {
    public static void main(String[] args) {
        goesByDaysThenNumbers();
        takesOnlyWhatItIsOpenedFor();
        staysAsItWasOpened();
        opensInPlaceOfAnother();
        tellsWhatIsMoved();
        refusesWrongArguments();
        holdsSixtyFour();
        Check.end();
    }

    private static void expect(AsOfLedger x, int... entries) {
        for (int entry : entries) {
            Check.same("next()", x.next(), entry);
        }
        Check.same("next() at the end", x.next(), AsOfLedger.NONE);
        Check.same("next() behind the end", x.next(), AsOfLedger.NONE);
    }

    private static AsOfLedger made() {
        AsOfLedger x = new AsOfLedger();
        x.post(1, 2, 100, 10);
        x.post(3, 1, 20, 5);
        x.post(1, 4, 7, 10);
        x.post(2, 4, 8, 10);
        x.post(1, 5, 9, 0);
        x.post(5, 1, 11, 999);
        x.correct(0, 60);
        x.annul(2);
        return x;
    }

    private static void goesByDaysThenNumbers() {
        AsOfLedger x = made();
        Check.same("open(1, 0, 999, 7)", x.open(1, 0, 999, 7), 5);
        expect(x, 4, 1, 0, 2, 5);
        Check.same("open(1, 0, 999, 6)", x.open(1, 0, 999, 6), 5);
        expect(x, 4, 1, 0, 2, 5);
    }

    private static void takesOnlyWhatItIsOpenedFor() {
        AsOfLedger x = made();
        Check.same("without the void one", x.open(1, 0, 999, 8), 4);
        expect(x, 4, 1, 0, 5);
        Check.same("days 5 to 10", x.open(1, 5, 10, 7), 3);
        expect(x, 1, 0, 2);
        Check.same("days 6 to 9", x.open(1, 6, 9, 8), 0);
        expect(x);
        Check.same("day 999 alone", x.open(1, 999, 999, 8), 1);
        expect(x, 5);
        Check.same("day 0 alone", x.open(1, 0, 0, 8), 1);
        expect(x, 4);
        Check.same("at time 1", x.open(1, 0, 999, 1), 1);
        expect(x, 0);
        Check.same("at time 0", x.open(1, 0, 999, 0), 0);
        expect(x);
        Check.same("debited and credited", x.open(2, 0, 999, 8), 2);
        expect(x, 0, 3);
        Check.same("an account of none", x.open(15, 0, 999, 8), 0);
        expect(x);
        Check.same("from above to", x.open(1, 11, 10, 8), 0);
        expect(x);
    }

    private static void staysAsItWasOpened() {
        AsOfLedger x = made();
        x.open(1, 0, 999, x.clock());
        Check.same("next()", x.next(), 4);
        x.annul(4);
        x.annul(1);
        x.correct(0, 61);
        x.post(1, 2, 5, 0);
        Check.same("moved() as it was", x.moved(), 9);
        Check.same("next() of a void one", x.next(), 1);
        Check.same("moved() of a void one", x.moved(), -20);
        Check.same("next() of a corrected one", x.next(), 0);
        Check.same("moved() of a corrected one", x.moved(), 60);
        Check.same("moved() is no step", x.moved(), 60);
        expect(x, 5);
    }

    private static void opensInPlaceOfAnother() {
        AsOfLedger x = made();
        x.open(1, 0, 999, 8);
        x.next();
        x.next();
        Check.same("open(2, 0, 999, 8)", x.open(2, 0, 999, 8), 2);
        Check.same("moved() of a new cursor", x.moved(), 0);
        expect(x, 0, 3);
        x.open(1, 0, 999, 8);
        x.next();
        Check.same("an empty one in its place", x.open(1, 5, 4, 8), 0);
        Check.same("moved() of the empty one", x.moved(), 0);
        expect(x);
    }

    private static void tellsWhatIsMoved() {
        AsOfLedger none = new AsOfLedger();
        none.post(0, 1, 5, 5);
        Check.same("moved() without a cursor", none.moved(), 0);
        Check.same("next() without a cursor", none.next(), AsOfLedger.NONE);
        Check.same("moved() after next() without a cursor", none.moved(), 0);
        AsOfLedger x = made();
        x.open(2, 0, 999, 5);
        Check.same("moved() before next()", x.moved(), 0);
        x.next();
        Check.same("moved() of a credit at time 5", x.moved(), -100);
        x.next();
        Check.same("moved() of a debit", x.moved(), 8);
        x.next();
        Check.same("moved() after NONE", x.moved(), 0);
        x.open(2, 0, 999, 7);
        x.next();
        Check.same("moved() of a credit at time 7", x.moved(), -60);
        AsOfLedger most = new AsOfLedger();
        most.post(0, 1, 2147483647, 0);
        most.open(1, 0, 0, 1);
        most.next();
        Check.same("moved() of the most", most.moved(), -2147483647);
    }

    private static AsOfLedger opened() {
        AsOfLedger x = made();
        x.open(1, 0, 999, 8);
        Check.same("next()", x.next(), 4);
        return x;
    }

    private static void refusesWrongArguments() {
        int max = 2147483647;
        int[][] wrong = {{-1, 0, 9, 0}, {16, 0, 9, 0}, {0, -1, 9, 0}, {0, 1000, 9, 0}, {0, 0, -1, 0}, {0, 0, 1000, 0},
            {0, 0, 9, -1}, {0, 0, 9, 9}, {0, 5, -1, 0}, {max, 0, 0, 0}, {0, max, 0, 0}, {0, 0, max, 0}, {0, 0, 0, max},
            {0, 0, 0, -2147483648}};
        for (int[] w : wrong) {
            Check.refusedWhole("open(" + w[0] + ", " + w[1] + ", " + w[2] + ", " + w[3] + ")",
                    IllegalArgumentException.class, CursorTest::opened, x -> x.open(w[0], w[1], w[2], w[3]));
        }
        AsOfLedger x = opened();
        Check.refused("open(16, 0, 0, 0)", IllegalArgumentException.class, () -> x.open(16, 0, 0, 0));
        Check.same("moved() after a refusal", x.moved(), 9);
        expect(x, 1, 0, 5);
        x.tamper(0, 0, 0);
        Check.refused("open, tampered", IllegalStateException.class, () -> x.open(-1, 0, 0, 0));
        Check.refused("next, tampered", IllegalStateException.class, () -> x.next());
        Check.refused("moved, tampered", IllegalStateException.class, () -> x.moved());
    }

    private static void holdsSixtyFour() {
        AsOfLedger x = new AsOfLedger();
        int[] backwards = new int[64];
        for (int entry = 0; entry < 64; entry++) {
            x.post(0, 1 + entry % 15, 1, 63 - entry);
            backwards[63 - entry] = entry;
        }
        Check.same("open(0, 0, 999, 64)", x.open(0, 0, 999, 64), 64);
        expect(x, backwards);
    }
}
