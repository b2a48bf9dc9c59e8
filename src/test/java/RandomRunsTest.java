import java.util.Random;
import java.util.function.LongSupplier;

/** Promises 1 to 16 together: long runs of calls, the program held against PlainLedger; the seeds are fixed. */
public final class RandomRunsTest {
    private static final int RUNS = 1500;
    private static final int CALLS = 512;
    private static final int[] ODD = {-2147483648, -1, 16, 64, 65, 1000, 2147483646, 2147483647};

    private final Random random;
    private final int accounts;
    private final int days;
    private final int most;
    private final boolean tampering;
    private final AsOfLedger x = new AsOfLedger();
    private final PlainLedger plain = new PlainLedger();

    private RandomRunsTest(long seed) {
        random = new Random(seed);
        // Few accounts and days make entries meet; few big amounts make turnovers run over.
        accounts = 2 + random.nextInt(15);
        days = random.nextBoolean() ? 4 : 1000;
        most = random.nextInt(3) == 0 ? 1000000000 : 100;
        tampering = random.nextInt(3) == 0;
    }

    public static void main(String[] args) {
        for (long seed = 1; seed <= RUNS; seed++) {
            RandomRunsTest run = new RandomRunsTest(seed);
            for (int call = 0; call < CALLS; call++) {
                run.callBoth("run " + seed + ", call " + call);
            }
        }
        Check.end();
    }

    private int pick(int below) {
        return random.nextInt(40) == 0 ? ODD[random.nextInt(ODD.length)] : random.nextInt(below);
    }

    private int account() {
        return pick(accounts);
    }

    private int day() {
        return pick(days);
    }

    private int amount() {
        return pick(most);
    }

    private int time() {
        return pick(plain.clock() + 2) - random.nextInt(2);
    }

    private int entry() {
        return pick(plain.clock() + 1);
    }

    private void callBoth(String where) {
        int a = account();
        int b = account();
        int d = day();
        int d2 = day();
        int t = time();
        int e = entry();
        int m = amount();
        int k = pick(7) - random.nextInt(2);
        switch (random.nextInt(24)) {
            case 0: case 1: compare(where + " post", () -> x.post(a, b, m, d), () -> plain.post(a, b, m, d)); break;
            case 2: case 3: compare(where + " correct", () -> x.correct(e, m), () -> plain.correct(e, m)); break;
            case 4: compare(where + " annul", () -> x.annul(e), () -> plain.annul(e)); break;
            case 5: case 6: compare(where + " balance", () -> x.balance(a, d, t), () -> plain.balance(a, d, t)); break;
            case 7: compare(where + " trial", () -> x.trial(d, t), () -> plain.trial(d, t)); break;
            case 8: compare(where + " turnover", () -> x.turnover(a), () -> plain.turnover(a)); break;
            case 9: case 10: compare(where + " open", () -> x.open(a, d, d2, t), () -> plain.open(a, d, d2, t)); break;
            case 11: case 12: case 13: case 14: compare(where + " next", x::next, plain::next); break;
            case 15: case 16: case 17: compare(where + " moved", x::moved, plain::moved); break;
            case 18: compare(where + " field", () -> x.field(e, k, t), () -> plain.field(e, k, t)); break;
            case 19: compare(where + " entries", x::entries, plain::entries); break;
            case 20: compare(where + " clock", x::clock, plain::clock); break;
            case 21: compare(where + " head", x::head, plain::head); break;
            case 22: compare(where + " verify", x::verify, plain::verify); break;
            default: tamperBoth(where, e, k, m);
        }
    }

    private void tamperBoth(String where, int v, int k, int w) {
        // Most runs stay whole, as little else is answered after it.
        boolean late = plain.clock() > 40 && tampering;
        int version = late ? v : -1;
        compare(where + " tamper", () -> x.tamper(version, k, w) ? 1 : 0, () -> plain.tamper(version, k, w) ? 1 : 0);
    }

    private static void compare(String where, LongSupplier program, LongSupplier document) {
        String got = answer(program);
        String due = answer(document);
        Check.holds(where + " answered " + got + ", due is " + due, got.equals(due));
    }

    private static String answer(LongSupplier call) {
        try {
            return Long.toString(call.getAsLong());
        } catch (RuntimeException e) {
            return "throws." + e.getClass().getSimpleName();
        }
    }
}
