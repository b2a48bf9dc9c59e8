/** Promises 14, 15 and 16: head, verify and tamper. */
public final class LinksTest {
    public static void main(String[] args) {
        chainsLinks();
        verifiesEveryWord();
        keepsTheLinksThatWereMade();
        tampersByTheEdges();
        refusesTheOthersOnceTampered();
        Check.end();
    }

    // The document's own words, written out apart from the program's.
    private static long linked(long before, int... words) {
        long h = before;
        for (int w : words) {
            h = (h ^ (h >>> 27)) * 2685821657736338717L + w;
        }
        return h;
    }

    private static void chainsLinks() {
        AsOfLedger x = new AsOfLedger();
        long h = 1469598103L;
        Check.same("head() of none", x.head(), h);
        x.post(1, 2, 2147483647, 10);
        h = linked(h, 0, 0, 1, 2, 2147483647, 10);
        Check.same("head() after post", x.head(), h);
        x.post(3, 15, 8, 999);
        h = linked(h, 0, 1, 3, 15, 8, 999);
        Check.same("head() after a second post", x.head(), h);
        x.correct(0, 70);
        h = linked(h, 1, 0, 1, 2, 70, 10);
        Check.same("head() after correct", x.head(), h);
        x.annul(0);
        h = linked(h, 2, 0, 1, 2, 0, 10);
        Check.same("head() after annul", x.head(), h);
        Check.same("verify()", x.verify(), 0);
    }

    private static AsOfLedger made() {
        AsOfLedger x = new AsOfLedger();
        x.post(1, 2, 100, 10);
        x.post(3, 4, 50, 20);
        x.correct(0, 60);
        x.annul(1);
        return x;
    }

    private static void verifiesEveryWord() {
        for (int v = 0; v < 4; v++) {
            for (int k = 0; k < 6; k++) {
                AsOfLedger x = made();
                long head = x.head();
                Check.holds("tamper(" + v + ", " + k + ", -77)", x.tamper(v, k, -77));
                Check.same("verify() after tamper(" + v + ", " + k + ", -77)", x.verify(), v + 1);
                Check.same("head() after tamper(" + v + ", " + k + ", -77)", x.head(), head);
            }
        }
    }

    private static void keepsTheLinksThatWereMade() {
        AsOfLedger x = made();
        x.tamper(3, 4, 1);
        Check.same("verify() of the last", x.verify(), 4);
        x.tamper(1, 4, -2147483648);
        Check.same("verify() of the first of two", x.verify(), 2);
        x.tamper(1, 4, 50);
        Check.same("verify() when one is put back", x.verify(), 4);
        x.tamper(3, 4, 0);
        Check.same("verify() when all are put back", x.verify(), 0);
        Check.refused("put back, yet tampered", IllegalStateException.class, () -> x.entries());
    }

    private static void tampersByTheEdges() {
        int max = 2147483647;
        int min = -2147483648;
        int[][] missing = {{-1, 0}, {4, 0}, {0, -1}, {0, 6}, {64, 0}, {max, 0}, {min, 0}, {0, max}, {0, min}, {1, -6},
            {-1, 6}};
        AsOfLedger x = made();
        for (int[] m : missing) {
            Check.holds("tamper(" + m[0] + ", " + m[1] + ", 5) is false", !x.tamper(m[0], m[1], 5));
        }
        Check.unchanged("a tamper that was false", x, made());
        Check.same("entries() after tampers that were false", x.entries(), 2);
        Check.holds("tamper with the word that is there is true", x.tamper(0, 4, 100));
        Check.same("verify() is 0 then", x.verify(), 0);
        Check.refused("and it is tampered", IllegalStateException.class, () -> x.entries());
        Check.holds("tamper(3, 5, 0) once tampered", x.tamper(3, 5, 0));
        Check.holds("tamper(4, 5, 0) once tampered is false", !x.tamper(4, 5, 0));
        Check.refused("false does not heal it", IllegalStateException.class, () -> x.entries());
    }

    private static AsOfLedger tampered() {
        AsOfLedger x = made();
        x.tamper(0, 1, 2147483647);
        return x;
    }

    private static void refusesTheOthersOnceTampered() {
        Class<IllegalStateException> due = IllegalStateException.class;
        Check.refusedWhole("post", due, LinksTest::tampered, x -> x.post(5, 6, 1, 1));
        Check.refusedWhole("correct", due, LinksTest::tampered, x -> x.correct(0, 1));
        Check.refusedWhole("annul", due, LinksTest::tampered, x -> x.annul(0));
        Check.refusedWhole("balance", due, LinksTest::tampered, x -> x.balance(0, 0, 0));
        Check.refusedWhole("trial", due, LinksTest::tampered, x -> x.trial(0, 0));
        Check.refusedWhole("turnover", due, LinksTest::tampered, x -> x.turnover(0));
        Check.refusedWhole("open", due, LinksTest::tampered, x -> x.open(0, 0, 0, 0));
        Check.refusedWhole("next", due, LinksTest::tampered, x -> x.next());
        Check.refusedWhole("moved", due, LinksTest::tampered, x -> x.moved());
        Check.refusedWhole("field", due, LinksTest::tampered, x -> x.field(0, 0, 0));
        Check.refusedWhole("entries", due, LinksTest::tampered, x -> x.entries());
        AsOfLedger x = tampered();
        Check.same("clock()", x.clock(), 4);
        Check.same("verify()", x.verify(), 1);
        Check.same("head()", x.head(), made().head());
    }
}
