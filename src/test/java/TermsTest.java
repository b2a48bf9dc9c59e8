import java.util.NoSuchElementException;
import java.util.function.Consumer;

/** What the document says under Terms, beyond the promises that each have a test of their own. */
public final class TermsTest {
    private static final int MAX = Made.MAX;

    public static void main(String[] args) {
        Check.sentence("at most 512 calls", TermsTest::livesForAllItsCalls);
        Check.sentence("ACCOUNTS are 0 .. 15", TermsTest::takesEveryAccount);
        Check.sentence("DAYS 0 .. 999", TermsTest::takesEveryDay);
        Check.sentence("Versions are numbered 0, 1, .. as they are made, at most 64", TermsTest::numbersVersions);
        Check.sentence("Entries are numbered 0, 1, .. likewise", TermsTest::numbersEntries);
        Check.sentence("all others of it have the same entry, accounts and day", TermsTest::keepsTheOtherWords);
        Check.sentence("a VOIDED one has the amount 0", TermsTest::voidsTheAmount);
        Check.sentence("and is the last one of its entry", TermsTest::endsWithTheVoidOne);
        Check.sentence("there are the versions below t: 0 has none", TermsTest::hasNothingAtTimeZero);
        Check.sentence("there are the versions below t: not version t", TermsTest::hasNotVersionT);
        Check.sentence("the latest of them is CURRENT", TermsTest::takesTheLatest);
        Check.sentence("with no later day: a void or corrected version keeps its day", TermsTest::keepsTheDay);
        Check.sentence("never above 2147483647", TermsTest::keepsTurnoversDown);
        Check.sentence("in longs that wrap", TermsTest::wrapsLinks);
        Check.sentence("1469598103 for the first one", TermsTest::beginsTheChain);
        Check.sentence("THE CURSOR: there is none at first", TermsTest::hasNoCursorAtFirst);
        Check.sentence("Once tamper() has answered true", TermsTest::throwsOnceTampered);
        Check.sentence("all calls but tamper(), head(), verify() and clock()", TermsTest::answersTheFourOnceTampered);
        Check.sentence("before all else", TermsTest::throwsBeforeAllElse);
        Check.sentence("the exception named first: post", TermsTest::namesTheFirstOfPost);
        Check.sentence("the exception named first: correct", TermsTest::namesTheFirstOfCorrect);
        Check.sentence("the exception named first: annul", TermsTest::namesTheFirstOfAnnul);
        Check.sentence("A call that throws changes nothing: it goes on as if it had not been",
                TermsTest::goesOnAfterThrows);
        Check.sentence("A call that is refused changes nothing", TermsTest::goesOnAfterARefusal);
        Check.end();
    }

    private static void livesForAllItsCalls() {
        AsOfLedger x = Made.full();
        // 66 calls made it.
        for (int call = 66; call < 511; call++) {
            x.open(1, 0, 999, 64);
        }
        Check.same("the 512th call", x.next(), 0);
    }

    private static void takesEveryAccount() {
        AsOfLedger x = new AsOfLedger();
        for (int account = 0; account < 16; account++) {
            x.post(account, (account + 1) % 16, account + 1, 1);
        }
        for (int account = 0; account < 16; account++) {
            int credited = account == 0 ? 16 : account;
            Check.same("balance of " + account, x.balance(account, 1, 16), account + 1 - credited);
            Check.same("turnover of " + account, x.turnover(account), account + 1 + credited);
            Check.same("entries of " + account, x.open(account, 0, 999, 16), 2);
        }
    }

    private static void takesEveryDay() {
        for (int day = 0; day < 1000; day++) {
            AsOfLedger x = new AsOfLedger();
            x.post(1, 2, 5, day);
            Check.same("balance for day " + day, x.balance(1, day, 1), 5);
            Check.same("trial for day " + day, x.trial(day, 1), 0);
            Check.same("entries of day " + day, x.open(1, day, day, 1), 1);
            Check.same("word 5 of day " + day, x.field(0, 5, 1), day);
        }
    }

    private static void numbersVersions() {
        AsOfLedger x = new AsOfLedger();
        x.post(1, 2, 5, 0);
        for (int version = 1; version < 63; version++) {
            Check.same("version " + version, x.correct(0, version), version);
        }
        Check.same("version 63", x.annul(0), 63);
        Check.refused("version 64", UnsupportedOperationException.class, () -> x.post(1, 2, 5, 0));
    }

    private static void numbersEntries() {
        AsOfLedger x = new AsOfLedger();
        for (int entry = 0; entry < 64; entry++) {
            Check.same("entry " + entry, x.post(1, 2, 5, 0), entry);
        }
        Check.refused("entry 64", UnsupportedOperationException.class, () -> x.post(1, 2, 5, 0));
    }

    private static void keepsTheOtherWords() {
        AsOfLedger x = new AsOfLedger();
        x.post(3, 4, 1, 2);
        x.post(0, 15, 77, 999);
        x.correct(1, 78);
        x.correct(1, 79);
        x.annul(1);
        int[] kinds = {0, 1, 1, 2};
        for (int t = 2; t <= 5; t++) {
            Check.same("kind at time " + t, x.field(1, 0, t), kinds[t - 2]);
            Check.same("entry at time " + t, x.field(1, 1, t), 1);
            Check.same("debited at time " + t, x.field(1, 2, t), 0);
            Check.same("credited at time " + t, x.field(1, 3, t), 15);
            Check.same("day at time " + t, x.field(1, 5, t), 999);
        }
    }

    private static void voidsTheAmount() {
        AsOfLedger x = Made.filledTurnover();
        x.annul(3);
        Check.same("the amount", x.field(3, 4, 8), 0);
        Check.same("the amount before", x.field(3, 4, 7), MAX - 1);
    }

    private static void endsWithTheVoidOne() {
        AsOfLedger x = Made.underWay();
        Check.refused("correct(1, 1)", NoSuchElementException.class, () -> x.correct(1, 1));
        Check.refused("annul(1)", NoSuchElementException.class, () -> x.annul(1));
        x.post(3, 1, 20, 5);
        x.correct(0, 3);
        for (int t = 4; t <= 7; t++) {
            Check.same("kind at time " + t, x.field(1, 0, t), 2);
        }
        Check.refused("correct(1, 1) later", NoSuchElementException.class, () -> x.correct(1, 1));
    }

    private static void hasNothingAtTimeZero() {
        AsOfLedger x = Made.full();
        for (int account = 0; account < 16; account++) {
            Check.same("balance of " + account, x.balance(account, 999, 0), 0);
            Check.same("entries of " + account, x.open(account, 0, 999, 0), 0);
        }
        for (int entry = 0; entry < 5; entry++) {
            Check.same("word of " + entry, x.field(entry, 1, 0), AsOfLedger.NONE);
        }
    }

    private static void hasNotVersionT() {
        AsOfLedger x = new AsOfLedger();
        for (int version = 0; version < 64; version++) {
            x.post(1, 2, 1, 0);
        }
        for (int t = 0; t <= 64; t++) {
            Check.same("balance at " + t, x.balance(1, 0, t), t);
            Check.same("how many at " + t, x.open(2, 0, 0, t), t);
            Check.same("entry " + t + " at " + t, x.field(t, 1, t), AsOfLedger.NONE);
            Check.same("entry before " + t, x.field(t - 1, 1, t), t - 1);
        }
    }

    private static void takesTheLatest() {
        AsOfLedger x = new AsOfLedger();
        x.post(1, 2, 1, 0);
        x.post(1, 2, 1000, 0);
        for (int version = 2; version < 64; version++) {
            x.correct(0, version);
        }
        for (int t = 3; t <= 64; t++) {
            Check.same("amount at " + t, x.field(0, 4, t), t - 1);
            Check.same("balance at " + t, x.balance(1, 0, t), 1000 + t - 1);
            x.open(2, 0, 0, t);
            x.next();
            Check.same("moved at " + t, x.moved(), -(t - 1));
        }
    }

    private static void keepsTheDay() {
        AsOfLedger x = Made.underWay();
        Check.same("corrected, the day before", x.balance(2, 9, 3), 0);
        Check.same("corrected, its day", x.balance(2, 10, 3), -60);
        Check.same("void, its day before it was", x.balance(3, 5, 3), 20);
        Check.same("void, its day", x.balance(3, 5, 4), 0);
    }

    private static void keepsTurnoversDown() {
        AsOfLedger x = Made.filledTurnover();
        Check.refused("post", ArithmeticException.class, () -> x.post(5, 0, 1, 0));
        Check.refused("post of a credit", ArithmeticException.class, () -> x.post(0, 5, 1, 0));
        Check.refused("correct", ArithmeticException.class, () -> x.correct(4, 2));
        Check.same("turnover(5)", x.turnover(5), MAX);
        // What it was before counts no more, be it ever so high.
        for (int round = 0; round < 5; round++) {
            x.correct(3, 1);
            x.correct(4, MAX - 1);
            x.correct(4, 1);
            x.correct(3, MAX - 1);
            Check.same("turnover(5) in round " + round, x.turnover(5), MAX);
        }
    }

    private static long linked(long before, int... words) {
        long h = before;
        for (int w : words) {
            h = (h ^ (h >>> 27)) * 2685821657736338717L + w;
        }
        return h;
    }

    private static void wrapsLinks() {
        AsOfLedger x = new AsOfLedger();
        x.post(0, 15, MAX, 999);
        Check.same("head()", x.head(), -2883437377250233857L);
        long h = x.head();
        int below = 0;
        for (int version = 1; version < 64; version++) {
            x.correct(0, MAX - version);
            h = linked(h, 1, 0, 0, 15, MAX - version, 999);
            Check.same("head() of version " + version, x.head(), h);
            below += h < 0 ? 1 : 0;
        }
        Check.holds("links on both sides of 0: " + below, below > 10 && below < 53);
    }

    private static void beginsTheChain() {
        AsOfLedger x = new AsOfLedger();
        Check.same("head() of none", x.head(), 1469598103L);
        x.post(15, 0, 1, 0);
        Check.same("head() of one", x.head(), 8815425522648764603L);
        Check.same("the same, written out", x.head(), linked(1469598103L, 0, 0, 15, 0, 1, 0));
    }

    private static void hasNoCursorAtFirst() {
        AsOfLedger x = new AsOfLedger();
        x.post(0, 1, 5, 0);
        Check.same("next()", x.next(), AsOfLedger.NONE);
        Check.same("moved()", x.moved(), 0);
    }

    private static void throwsState(String call, Consumer<AsOfLedger> made) {
        Check.refusedWhole(call, IllegalStateException.class, Made::tampered, made);
        Check.refusedWhole(call + " of 64", IllegalStateException.class, Made::tamperedFull, made);
    }

    private static void throwsOnceTampered() {
        throwsState("post", x -> x.post(5, 6, 1, 1));
        throwsState("correct", x -> x.correct(0, 1));
        throwsState("annul", x -> x.annul(0));
        throwsState("balance", x -> x.balance(0, 0, 0));
        throwsState("trial", x -> x.trial(0, 0));
        throwsState("turnover", x -> x.turnover(0));
        throwsState("open", x -> x.open(0, 0, 0, 0));
        throwsState("next", x -> x.next());
        throwsState("moved", x -> x.moved());
        throwsState("field", x -> x.field(0, 0, 0));
        throwsState("entries", x -> x.entries());
    }

    private static void answersTheFourOnceTampered() {
        AsOfLedger x = Made.tampered();
        Check.same("clock()", x.clock(), 5);
        Check.same("verify()", x.verify(), 1);
        Check.same("head()", x.head(), Made.underWay().head());
        Check.holds("tamper(0, 0, 0)", x.tamper(0, 0, 0));
        Check.holds("tamper(5, 0, 0) is false", !x.tamper(5, 0, 0));
    }

    private static void throwsBeforeAllElse() {
        throwsState("post, no such account", x -> x.post(-1, 16, 0, 1000));
        throwsState("post, a turnover too high", x -> x.post(1, 2, MAX, 1));
        throwsState("correct, no such entry", x -> x.correct(9, 0));
        throwsState("correct, no such amount", x -> x.correct(2, 0));
        throwsState("correct, a turnover too high", x -> x.correct(2, MAX));
        throwsState("annul, no such entry", x -> x.annul(-1));
        throwsState("annul, void", x -> x.annul(1));
        throwsState("balance, out of its range", x -> x.balance(16, 1000, 65));
        throwsState("trial, out of its range", x -> x.trial(-1, -1));
        throwsState("turnover, out of its range", x -> x.turnover(16));
        throwsState("open, out of its range", x -> x.open(-1, -1, -1, -1));
        throwsState("open, from above to", x -> x.open(1, 1, 0, 0));
        throwsState("field, no such word", x -> x.field(-1, 6, 65));
        AsOfLedger noCursor = new AsOfLedger();
        noCursor.post(0, 1, 1, 1);
        noCursor.tamper(0, 0, 0);
        Check.refused("next, no cursor", IllegalStateException.class, () -> noCursor.next());
        Check.refused("moved, no cursor", IllegalStateException.class, () -> noCursor.moved());
    }

    private static void namesTheFirstOfPost() {
        Class<? extends RuntimeException> argument = IllegalArgumentException.class;
        AsOfLedger x = Made.filledTurnover();
        Check.refused("account before turnover", argument, () -> x.post(5, 16, 1, 0));
        Check.refused("account before turnover", argument, () -> x.post(-1, 5, 1, 0));
        Check.refused("day before turnover", argument, () -> x.post(5, 7, 1, 1000));
        Check.refused("the same before turnover", argument, () -> x.post(5, 5, 1, 0));
        AsOfLedger full = Made.full();
        Check.refused("account before full", argument, () -> full.post(0, 16, 1, 0));
        Check.refused("day before full", argument, () -> full.post(0, 1, 1, -1));
        Check.refused("the same before full", argument, () -> full.post(0, 0, 1, 0));
        Check.refused("amount before full", argument, () -> full.post(0, 1, 0, 0));
        Check.refused("full before turnover", UnsupportedOperationException.class, () -> full.post(5, 0, 1, 0));
        Check.refused("account before both", argument, () -> full.post(5, -1, MAX, 0));
    }

    private static void namesTheFirstOfCorrect() {
        AsOfLedger x = Made.filledTurnover();
        Check.refused("no such entry before amount", NoSuchElementException.class, () -> x.correct(5, 0));
        Check.refused("void before amount", NoSuchElementException.class, () -> x.correct(1, 0));
        Check.refused("void before turnover", NoSuchElementException.class, () -> x.correct(1, MAX));
        AsOfLedger full = Made.full();
        Check.refused("no such entry before full", NoSuchElementException.class, () -> full.correct(5, 1));
        Check.refused("void before full", NoSuchElementException.class, () -> full.correct(1, 1));
        Check.refused("void before amount and full", NoSuchElementException.class, () -> full.correct(1, -1));
        Check.refused("amount before full", IllegalArgumentException.class, () -> full.correct(2, 0));
        Check.refused("full before turnover", UnsupportedOperationException.class, () -> full.correct(4, 2));
    }

    private static void namesTheFirstOfAnnul() {
        AsOfLedger full = Made.full();
        Check.refused("no such entry before full", NoSuchElementException.class, () -> full.annul(5));
        Check.refused("void before full", NoSuchElementException.class, () -> full.annul(1));
        Check.refused("full, the entry being there", UnsupportedOperationException.class, () -> full.annul(0));
    }

    private static void goesOnAfterThrows() {
        AsOfLedger x = Made.filledTurnover();
        Check.refused("post", IllegalArgumentException.class, () -> x.post(0, 0, 1, 1));
        Check.refused("post", ArithmeticException.class, () -> x.post(0, 5, 1, 1));
        Check.refused("correct", NoSuchElementException.class, () -> x.correct(1, 1));
        Check.refused("correct", IllegalArgumentException.class, () -> x.correct(0, 0));
        Check.refused("correct", ArithmeticException.class, () -> x.correct(4, 2));
        Check.refused("annul", NoSuchElementException.class, () -> x.annul(1));
        Check.refused("open", IllegalArgumentException.class, () -> x.open(1, 0, 999, 8));
        Check.same("moved()", x.moved(), 60);
        Check.same("next()", x.next(), 2);
        Check.same("the next version", x.correct(4, 1), 7);
        Check.same("the next entry", x.post(0, 1, 1, 1), 5);
        AsOfLedger untouched = Made.filledTurnover();
        untouched.next();
        untouched.correct(4, 1);
        untouched.post(0, 1, 1, 1);
        Check.unchanged("all of them", x, untouched);
    }

    private static void goesOnAfterARefusal() {
        AsOfLedger x = Made.underWay();
        Check.holds("tamper(5, 0, 9) is false", !x.tamper(5, 0, 9));
        Check.holds("tamper(0, 6, 9) is false", !x.tamper(0, 6, 9));
        Check.same("post", x.post(0, 1, 1, 1), 3);
        Check.same("verify()", x.verify(), 0);
        Check.same("next()", x.next(), 2);
        Check.same("word 0 of version 5", x.field(3, 0, 6), 0);
    }
}
