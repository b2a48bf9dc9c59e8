import java.util.function.Consumer;
import java.util.function.Supplier;

/** What the tests share: a test tells every answer that is not as due, and ends with code 1 if there was one. */
final class Check {
    private static int wrong = 0;
    private static int looked = 0;
    private static String sentence = "";

    private Check() {
    }

    /** A sentence of the document with a test of its own: what is thrown in it fails this one, the others still run. */
    static void sentence(String words, Runnable test) {
        sentence = words;
        int before = looked;
        try {
            test.run();
            holds("nothing was looked at", looked > before);
        } catch (RuntimeException e) {
            holds("the test itself met " + e, false);
        }
    }

    static void same(String call, long got, long due) {
        holds(call + " answered " + got + ", due is " + due, got == due);
    }

    static void holds(String what, boolean truth) {
        looked++;
        if (!truth) {
            wrong++;
            System.out.println("  not as due [" + sentence + "]: " + what);
        }
    }

    static void refused(String call, Class<? extends RuntimeException> due, Runnable made) {
        String got = "nothing";
        try {
            made.run();
        } catch (RuntimeException e) {
            got = e.getClass().getName();
        }
        holds(call + " threw " + got + ", due is " + due.getName(), got.equals(due.getName()));
    }

    /**
     * Like refused, and the ledger answers afterwards what one answers that never had the call. New ledgers each
     * time, as one is good for 512 calls alone.
     */
    static void refusedWhole(String call, Class<? extends RuntimeException> due, Supplier<AsOfLedger> maker,
            Consumer<AsOfLedger> made) {
        AsOfLedger ledger = maker.get();
        refused(call, due, () -> made.accept(ledger));
        unchanged(call, ledger, maker.get());
    }

    static void unchanged(String call, AsOfLedger ledger, AsOfLedger untouched) {
        String got = picture(ledger);
        String due = picture(untouched);
        holds(call + " was refused and changed the ledger: " + got + ", due is " + due, got.equals(due));
    }

    static void end() {
        if (wrong == 0 && looked > 0) {
            return;
        }
        System.out.println(wrong + " of " + looked + " answers are not as due");
        System.exit(1);
    }

    // The links stand for all words of all versions, the balances for what replaced what; the cursor is run to its end.
    private static String picture(AsOfLedger ledger) {
        StringBuilder text = new StringBuilder();
        int clock = ledger.clock();
        text.append(clock).append(' ').append(ledger.head()).append(' ').append(ledger.verify());
        try {
            text.append(' ').append(ledger.entries()).append(' ').append(ledger.moved());
            for (int account = 0; account < 16; account++) {
                text.append(' ').append(ledger.turnover(account));
                text.append(' ').append(ledger.balance(account, 999, clock));
            }
            for (int t = 0; t <= clock; t++) {
                text.append(' ').append(ledger.balance(1, 999, t));
            }
            for (int step = 0; step < 65; step++) {
                text.append(' ').append(ledger.next()).append(' ').append(ledger.moved());
            }
        } catch (IllegalStateException e) {
            text.append(" tampered");
        }
        return text.toString();
    }
}
