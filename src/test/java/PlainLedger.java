import java.math.BigInteger;
import java.util.ArrayList;
import java.util.Comparator;
import java.util.List;
import java.util.NoSuchElementException;
import java.util.TreeMap;

/** The document once more, written with the Java library and without thrift, to hold the program against. */
final class PlainLedger {
    private static final BigInteger MOST = BigInteger.valueOf(2147483647);

    private final List<int[]> versions = new ArrayList<>();
    private final List<Long> links = new ArrayList<>();
    private boolean tampered;
    private List<int[]> cursor = List.of();
    private int cursorAccount;
    private int[] latest;

    int post(int debit, int credit, int amount, int day) {
        state();
        argument(debit >= 0 && debit <= 15 && credit >= 0 && credit <= 15 && debit != credit);
        argument(amount >= 1 && day >= 0 && day <= 999);
        int entry = entries();
        add(new int[] {0, entry, debit, credit, amount, day});
        return entry;
    }

    int correct(int entry, int amount) {
        state();
        int[] old = living(entry);
        argument(amount >= 1);
        return add(new int[] {1, entry, old[2], old[3], amount, old[5]});
    }

    int annul(int entry) {
        state();
        int[] old = living(entry);
        return add(new int[] {2, entry, old[2], old[3], 0, old[5]});
    }

    int balance(int account, int day, int t) {
        state();
        argument(account >= 0 && account <= 15 && day >= 0 && day <= 999 && t >= 0 && t <= clock());
        return balanceOf(account, day, t).intValueExact();
    }

    int trial(int day, int t) {
        state();
        argument(day >= 0 && day <= 999 && t >= 0 && t <= clock());
        BigInteger sum = BigInteger.ZERO;
        for (int account = 0; account <= 15; account++) {
            sum = sum.add(balanceOf(account, day, t));
        }
        return sum.intValueExact();
    }

    int turnover(int account) {
        state();
        argument(account >= 0 && account <= 15);
        return turnoverOf(account).intValueExact();
    }

    int open(int account, int from, int to, int t) {
        state();
        argument(account >= 0 && account <= 15 && from >= 0 && from <= 999 && to >= 0 && to <= 999);
        argument(t >= 0 && t <= clock());
        cursor = new ArrayList<>();
        cursorAccount = account;
        latest = null;
        for (int[] v : current(t).values()) {
            if (v[0] != 2 && (v[2] == account || v[3] == account) && v[5] >= from && v[5] <= to) {
                cursor.add(v);
            }
        }
        cursor.sort(Comparator.comparingInt((int[] v) -> v[5]).thenComparingInt(v -> v[1]));
        return cursor.size();
    }

    int next() {
        state();
        latest = cursor.isEmpty() ? null : cursor.remove(0);
        return latest == null ? -1 : latest[1];
    }

    int moved() {
        state();
        if (latest == null) {
            return 0;
        }
        return latest[2] == cursorAccount ? latest[4] : -latest[4];
    }

    int field(int entry, int k, int t) {
        state();
        if (k < 0 || k > 5 || t < 0 || t > clock() || !current(t).containsKey(entry)) {
            return -1;
        }
        return current(t).get(entry)[k];
    }

    int entries() {
        state();
        return current(clock()).size();
    }

    int clock() {
        return versions.size();
    }

    long head() {
        return before(clock());
    }

    int verify() {
        for (int v = 0; v < clock(); v++) {
            if (link(before(v), versions.get(v)) != links.get(v)) {
                return v + 1;
            }
        }
        return 0;
    }

    boolean tamper(int v, int k, int w) {
        if (v < 0 || v >= clock() || k < 0 || k > 5) {
            return false;
        }
        versions.get(v)[k] = w;
        tampered = true;
        return true;
    }

    private void state() {
        if (tampered) {
            throw new IllegalStateException();
        }
    }

    private static void argument(boolean good) {
        if (!good) {
            throw new IllegalArgumentException();
        }
    }

    private int[] living(int entry) {
        int[] v = current(clock()).get(entry);
        if (v == null || v[0] == 2) {
            throw new NoSuchElementException();
        }
        return v;
    }

    private int add(int[] words) {
        if (clock() == 64) {
            throw new UnsupportedOperationException();
        }
        versions.add(words);
        if (turnoverOf(words[2]).compareTo(MOST) > 0 || turnoverOf(words[3]).compareTo(MOST) > 0) {
            versions.remove(versions.size() - 1);
            throw new ArithmeticException();
        }
        links.add(link(before(clock() - 1), words));
        return clock() - 1;
    }

    private TreeMap<Integer, int[]> current(int t) {
        TreeMap<Integer, int[]> map = new TreeMap<>();
        for (int[] v : versions.subList(0, t)) {
            map.put(v[1], v);
        }
        return map;
    }

    private BigInteger balanceOf(int account, int day, int t) {
        BigInteger sum = BigInteger.ZERO;
        for (int[] v : current(t).values()) {
            if (v[5] <= day && v[2] == account) {
                sum = sum.add(BigInteger.valueOf(v[4]));
            }
            if (v[5] <= day && v[3] == account) {
                sum = sum.subtract(BigInteger.valueOf(v[4]));
            }
        }
        return sum;
    }

    private BigInteger turnoverOf(int account) {
        BigInteger sum = BigInteger.ZERO;
        for (int[] v : current(clock()).values()) {
            if (v[2] == account || v[3] == account) {
                sum = sum.add(BigInteger.valueOf(v[4]));
            }
        }
        return sum;
    }

    private long before(int v) {
        return v == 0 ? 1469598103L : links.get(v - 1);
    }

    private static long link(long before, int[] words) {
        long h = before;
        for (int w : words) {
            h = (h ^ (h >>> 27)) * 2685821657736338717L + w;
        }
        return h;
    }
}
