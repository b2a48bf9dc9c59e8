/** Ledgers that many tests begin with. */
final class Made {
    static final int MAX = 2147483647;
    static final int MIN = -2147483648;

    private Made() {
    }

    /**
     * Five versions: entry 0 is corrected, entry 1 void, entry 2 as it was posted. The cursor has answered entry 0 of
     * account 1, which puts 60 to it, and has entry 2 left.
     */
    static AsOfLedger underWay() {
        AsOfLedger x = new AsOfLedger();
        x.post(1, 2, 100, 10);
        x.post(3, 1, 20, 5);
        x.correct(0, 60);
        x.annul(1);
        x.post(1, 4, 7, 10);
        x.open(1, 0, 999, 5);
        x.next();
        return x;
    }

    /** The same with entries 3 and 4 behind it, which fill the turnover of account 5: one more would be too much. */
    static AsOfLedger filledTurnover() {
        AsOfLedger x = underWay();
        x.post(5, 6, MAX - 1, 999);
        x.post(5, 7, 1, 0);
        return x;
    }

    /** The same with corrections of entry 2 behind it, up to so many versions. */
    static AsOfLedger versions(int count) {
        AsOfLedger x = filledTurnover();
        for (int version = 7; version < count; version++) {
            x.correct(2, 7);
        }
        return x;
    }

    static AsOfLedger full() {
        return versions(64);
    }

    static AsOfLedger tampered() {
        AsOfLedger x = underWay();
        x.tamper(0, 1, MAX);
        return x;
    }

    static AsOfLedger tamperedFull() {
        AsOfLedger x = full();
        x.tamper(0, 4, 100);
        return x;
    }
}
