/** Promises 11, 12 and 13: field, entries and clock. */
public final class FieldTest {
    public static void main(String[] args) {
        tellsWordsAtTimes();
        answersNone();
        counts();
        Check.end();
    }

    private static AsOfLedger made() {
        AsOfLedger x = new AsOfLedger();
        x.post(1, 2, 100, 10);
        x.post(3, 4, 50, 20);
        x.correct(0, 60);
        x.annul(1);
        return x;
    }

    private static void tellsWordsAtTimes() {
        AsOfLedger x = made();
        int[][] due = {
            // entry, t, then the six words
            {0, 1, 0, 0, 1, 2, 100, 10}, {0, 2, 0, 0, 1, 2, 100, 10}, {0, 3, 1, 0, 1, 2, 60, 10},
            {0, 4, 1, 0, 1, 2, 60, 10}, {1, 2, 0, 1, 3, 4, 50, 20}, {1, 3, 0, 1, 3, 4, 50, 20},
            {1, 4, 2, 1, 3, 4, 0, 20},
        };
        for (int[] d : due) {
            for (int k = 0; k < 6; k++) {
                Check.same("field(" + d[0] + ", " + k + ", " + d[1] + ")", x.field(d[0], k, d[1]), d[2 + k]);
            }
        }
    }

    private static void answersNone() {
        AsOfLedger x = made();
        int max = 2147483647;
        int min = -2147483648;
        int[][] none = {{0, 0, 0}, {1, 0, 1}, {1, 0, 0}, {2, 0, 4}, {-1, 0, 4}, {0, -1, 4}, {0, 6, 4}, {0, 0, -1},
            {0, 0, 5}, {max, 0, 4}, {min, 0, 4}, {0, max, 4}, {0, min, 4}, {0, 0, max}, {0, 0, min}};
        for (int[] n : none) {
            Check.same("field(" + n[0] + ", " + n[1] + ", " + n[2] + ")", x.field(n[0], n[1], n[2]), -1);
        }
        x.tamper(0, 0, 0);
        Check.refused("field, tampered", IllegalStateException.class, () -> x.field(9, 9, 9));
    }

    private static void counts() {
        AsOfLedger x = made();
        Check.same("entries()", x.entries(), 2);
        Check.same("clock()", x.clock(), 4);
        x.post(5, 6, 1, 1);
        Check.same("entries()", x.entries(), 3);
        Check.same("clock()", x.clock(), 5);
        x.tamper(0, 1, 50);
        Check.refused("entries, tampered", IllegalStateException.class, () -> x.entries());
        Check.same("clock(), tampered", x.clock(), 5);
    }
}
