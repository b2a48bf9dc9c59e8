import java.util.NoSuchElementException;

/**
 * A ledger that forgets nothing: entries are never changed, they only get new versions, so that what was
 * known of any day at any time can still be told; a chain of links shows whether a word was changed by hand.
 */
public final class AsOfLedger {
    public static final int NONE = -1;

    private static final int ACCOUNTS = 16;
    private static final int DAYS = 1000;
    private static final int MOST_VERSIONS = 64;
    private static final int MOST_TURNOVER = 2147483647;

    // The words of a version, by their places.
    private static final int KIND = 0;
    private static final int ENTRY = 1;
    private static final int DEBITED = 2;
    private static final int CREDITED = 3;
    private static final int AMOUNT = 4;
    private static final int DAY = 5;
    private static final int WORDS = 6;

    private static final int POSTED = 0;
    private static final int CORRECTED = 1;
    private static final int VOIDED = 2;

    // Not before any time that there can be, so that a version with this mark is current at each of them.
    private static final int NOT_REPLACED = MOST_VERSIONS;

    private static final long LINK_BEFORE_FIRST = 1469598103L;
    private static final long LINK_FACTOR = 2685821657736338717L;

    // One row for all versions, version by version: a call makes no object of its own.
    private final int[] words;
    private final long[] links;
    private final int[] replacedBy;
    private int versionCount;
    private int entryCount;
    private boolean tampered;

    // The cursor keeps versions, not entries: versions never change, so it stays as it was opened.
    private final int[] cursorVersions;
    private int cursorSize;
    private int cursorPlace;
    private int cursorAccount;
    private int cursorLatest;

    public AsOfLedger() {
        words = new int[MOST_VERSIONS * WORDS];
        links = new long[MOST_VERSIONS];
        replacedBy = new int[MOST_VERSIONS];
        cursorVersions = new int[MOST_VERSIONS];
        cursorLatest = NONE;
    }

    public int post(int debit, int credit, int amount, int day)
            throws IllegalStateException, IllegalArgumentException, UnsupportedOperationException, ArithmeticException {
        refuseIfTampered();
        refuseArgumentsUnless(isAccount(debit) && isAccount(credit) && debit != credit && isDay(day) && amount >= 1);
        refuseIfFull();
        refuseIfTurnoverTooHigh(debit, 0, amount);
        refuseIfTurnoverTooHigh(credit, 0, amount);
        int entry = entryCount;
        append(POSTED, entry, debit, credit, amount, day);
        entryCount++;
        return entry;
    }

    public int correct(int entry, int amount)
            throws IllegalStateException, NoSuchElementException, IllegalArgumentException,
            UnsupportedOperationException, ArithmeticException {
        refuseIfTampered();
        int old = versionToReplace(entry);
        refuseArgumentsUnless(amount >= 1);
        refuseIfFull();
        refuseIfTurnoverTooHigh(word(old, DEBITED), word(old, AMOUNT), amount);
        refuseIfTurnoverTooHigh(word(old, CREDITED), word(old, AMOUNT), amount);
        return replace(old, CORRECTED, amount);
    }

    public int annul(int entry) throws IllegalStateException, NoSuchElementException, UnsupportedOperationException {
        refuseIfTampered();
        int old = versionToReplace(entry);
        refuseIfFull();
        return replace(old, VOIDED, 0);
    }

    public int balance(int account, int day, int t) throws IllegalStateException, IllegalArgumentException {
        refuseIfTampered();
        refuseArgumentsUnless(isAccount(account) && isDay(day) && isTime(t));
        return balanceOf(account, day, t);
    }

    public int trial(int day, int t) throws IllegalStateException, IllegalArgumentException {
        refuseIfTampered();
        refuseArgumentsUnless(isDay(day) && isTime(t));
        // A part of the sum may wrap, the whole is right all the same.
        int sum = 0;
        for (int account = 0; account < ACCOUNTS; account++) {
            sum += balanceOf(account, day, t);
        }
        return sum;
    }

    public int turnover(int account) throws IllegalStateException, IllegalArgumentException {
        refuseIfTampered();
        refuseArgumentsUnless(isAccount(account));
        return turnoverOf(account);
    }

    public int open(int account, int from, int to, int t) throws IllegalStateException, IllegalArgumentException {
        refuseIfTampered();
        refuseArgumentsUnless(isAccount(account) && isDay(from) && isDay(to) && isTime(t));
        cursorSize = 0;
        cursorPlace = 0;
        cursorAccount = account;
        cursorLatest = NONE;
        for (int version = 0; version < t; version++) {
            int day = word(version, DAY);
            if (isCurrent(version, t) && word(version, KIND) != VOIDED && touches(version, account)
                    && day >= from && day <= to) {
                insertIntoCursor(version);
            }
        }
        return cursorSize;
    }

    public int next() throws IllegalStateException {
        refuseIfTampered();
        if (cursorPlace >= cursorSize) {
            cursorLatest = NONE;
            return NONE;
        }
        cursorLatest = cursorVersions[cursorPlace];
        cursorPlace++;
        return word(cursorLatest, ENTRY);
    }

    public int moved() throws IllegalStateException {
        refuseIfTampered();
        return cursorLatest == NONE ? 0 : movedBy(cursorLatest, cursorAccount);
    }

    public int field(int entry, int k, int t) throws IllegalStateException {
        refuseIfTampered();
        if (!isWord(k) || !isTime(t)) {
            return NONE;
        }
        int version = currentVersion(entry, t);
        return version == NONE ? NONE : word(version, k);
    }

    public int entries() throws IllegalStateException {
        refuseIfTampered();
        return entryCount;
    }

    public int clock() {
        return versionCount;
    }

    public long head() {
        return linkBefore(versionCount);
    }

    public int verify() {
        for (int version = 0; version < versionCount; version++) {
            if (linkOfWords(version) != links[version]) {
                return version + 1;
            }
        }
        return 0;
    }

    public boolean tamper(int v, int k, int w) {
        if (!isVersion(v) || !isWord(k)) {
            return false;
        }
        words[v * WORDS + k] = w;
        tampered = true;
        return true;
    }

    private static boolean isAccount(int account) {
        return account >= 0 && account < ACCOUNTS;
    }

    private static boolean isDay(int day) {
        return day >= 0 && day < DAYS;
    }

    private static boolean isWord(int k) {
        return k >= 0 && k < WORDS;
    }

    private boolean isTime(int t) {
        return t >= 0 && t <= versionCount;
    }

    private boolean isVersion(int version) {
        return version >= 0 && version < versionCount;
    }

    private void refuseIfTampered() {
        if (tampered) {
            throw new IllegalStateException("a word was changed by hand");
        }
    }

    private static void refuseArgumentsUnless(boolean good) {
        if (!good) {
            throw new IllegalArgumentException("an argument is out of its range");
        }
    }

    private void refuseIfFull() {
        if (versionCount >= MOST_VERSIONS) {
            throw new UnsupportedOperationException("there are 64 versions");
        }
    }

    private void refuseIfTurnoverTooHigh(int account, int oldAmount, int newAmount) {
        long turnover = (long) turnoverOf(account) - oldAmount + newAmount;
        if (turnover > MOST_TURNOVER) {
            throw new ArithmeticException("a turnover would be above 2147483647");
        }
    }

    private int versionToReplace(int entry) {
        int version = currentVersion(entry, versionCount);
        if (version == NONE || word(version, KIND) == VOIDED) {
            throw new NoSuchElementException("there is no such entry, or it is void");
        }
        return version;
    }

    private int word(int version, int k) {
        return words[version * WORDS + k];
    }

    private boolean isCurrent(int version, int t) {
        return version < t && replacedBy[version] >= t;
    }

    private boolean touches(int version, int account) {
        return word(version, DEBITED) == account || word(version, CREDITED) == account;
    }

    private int currentVersion(int entry, int t) {
        for (int version = t - 1; version >= 0; version--) {
            if (word(version, ENTRY) == entry) {
                return version;
            }
        }
        return NONE;
    }

    private int movedBy(int version, int account) {
        if (word(version, DEBITED) == account) {
            return word(version, AMOUNT);
        }
        return word(version, CREDITED) == account ? -word(version, AMOUNT) : 0;
    }

    // An int holds it, and each part of it: no sum is further from 0 than the turnover was at time t.
    private int balanceOf(int account, int day, int t) {
        int sum = 0;
        for (int version = 0; version < t; version++) {
            if (isCurrent(version, t) && word(version, DAY) <= day) {
                sum += movedBy(version, account);
            }
        }
        return sum;
    }

    private int turnoverOf(int account) {
        int sum = 0;
        for (int version = 0; version < versionCount; version++) {
            if (isCurrent(version, versionCount) && touches(version, account)) {
                sum += word(version, AMOUNT);
            }
        }
        return sum;
    }

    private int append(int kind, int entry, int debit, int credit, int amount, int day) {
        int version = versionCount;
        int start = version * WORDS;
        words[start + KIND] = kind;
        words[start + ENTRY] = entry;
        words[start + DEBITED] = debit;
        words[start + CREDITED] = credit;
        words[start + AMOUNT] = amount;
        words[start + DAY] = day;
        links[version] = linkOfWords(version);
        replacedBy[version] = NOT_REPLACED;
        versionCount++;
        return version;
    }

    private int replace(int old, int kind, int amount) {
        int version = append(kind, word(old, ENTRY), word(old, DEBITED), word(old, CREDITED), amount, word(old, DAY));
        replacedBy[old] = version;
        return version;
    }

    private long linkBefore(int version) {
        return version == 0 ? LINK_BEFORE_FIRST : links[version - 1];
    }

    private long linkOfWords(int version) {
        long h = linkBefore(version);
        for (int k = 0; k < WORDS; k++) {
            h = (h ^ (h >>> 27)) * LINK_FACTOR + word(version, k);
        }
        return h;
    }

    private void insertIntoCursor(int version) {
        int place = cursorSize;
        while (place > 0 && comesBefore(version, cursorVersions[place - 1])) {
            cursorVersions[place] = cursorVersions[place - 1];
            place--;
        }
        cursorVersions[place] = version;
        cursorSize++;
    }

    private boolean comesBefore(int one, int other) {
        int days = Integer.compare(word(one, DAY), word(other, DAY));
        return days < 0 || days == 0 && word(one, ENTRY) < word(other, ENTRY);
    }
}
