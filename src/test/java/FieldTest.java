/** Promise 11: field. */
public final class FieldTest {
    private static final int MAX = Made.MAX;
    private static final int MIN = Made.MIN;

    public static void main(String[] args) {
        Check.sentence("Word k of the version of an entry that is current at time t", FieldTest::tellsWordsAtTimes);
        Check.sentence("of an entry at the ends of all ranges", FieldTest::tellsTheEnds);
        Check.sentence("NONE when there is none: not yet", FieldTest::isNoneBeforeTheEntry);
        Check.sentence("NONE when there is none: no such entry", FieldTest::isNoneOfNoEntry);
        Check.sentence("or no such word", FieldTest::isNoneOfNoWord);
        Check.sentence("or no such time", FieldTest::isNoneOfNoTime);
        Check.sentence("a void entry has words all the same", FieldTest::tellsWordsOfAVoidOne);
        Check.end();
    }

    private static void tells(AsOfLedger x, int entry, int t, int... words) {
        for (int k = 0; k < 6; k++) {
            Check.same("field(" + entry + ", " + k + ", " + t + ")", x.field(entry, k, t), words[k]);
        }
    }

    private static void none(AsOfLedger x, int entry, int k, int t) {
        Check.same("field(" + entry + ", " + k + ", " + t + ")", x.field(entry, k, t), -1);
    }

    private static void tellsWordsAtTimes() {
        AsOfLedger x = Made.underWay();
        tells(x, 0, 1, 0, 0, 1, 2, 100, 10);
        tells(x, 0, 2, 0, 0, 1, 2, 100, 10);
        tells(x, 0, 3, 1, 0, 1, 2, 60, 10);
        tells(x, 0, 5, 1, 0, 1, 2, 60, 10);
        tells(x, 1, 2, 0, 1, 3, 1, 20, 5);
        tells(x, 1, 3, 0, 1, 3, 1, 20, 5);
        tells(x, 2, 5, 0, 2, 1, 4, 7, 10);
    }

    private static void tellsTheEnds() {
        AsOfLedger x = new AsOfLedger();
        x.post(0, 15, MAX, 999);
        tells(x, 0, 1, 0, 0, 0, 15, MAX, 999);
        AsOfLedger posted = new AsOfLedger();
        for (int entry = 0; entry < 64; entry++) {
            posted.post(0, 1, 1, entry);
        }
        tells(posted, 63, 64, 0, 63, 0, 1, 1, 63);
        none(posted, 63, 0, 63);
        none(posted, 64, 0, 64);
    }

    private static void isNoneBeforeTheEntry() {
        AsOfLedger x = Made.underWay();
        for (int k = 0; k < 6; k++) {
            none(x, 0, k, 0);
            none(x, 1, k, 1);
            none(x, 2, k, 4);
        }
    }

    private static void isNoneOfNoEntry() {
        AsOfLedger x = Made.underWay();
        for (int entry : new int[] {-1, 3, 4, 5, 64, MAX, MIN}) {
            for (int k = 0; k < 6; k++) {
                none(x, entry, k, 5);
            }
        }
    }

    private static void isNoneOfNoWord() {
        AsOfLedger x = Made.underWay();
        for (int k : new int[] {-1, 6, 7, MAX, MIN}) {
            none(x, 0, k, 5);
            none(x, 1, k, 5);
            none(x, 2, k, 5);
        }
    }

    private static void isNoneOfNoTime() {
        AsOfLedger x = Made.underWay();
        for (int t : new int[] {-1, 6, 64, MAX, MIN}) {
            none(x, 0, 4, t);
        }
        AsOfLedger full = Made.full();
        tells(full, 2, 64, 1, 2, 1, 4, 7, 10);
        none(full, 2, 0, 65);
    }

    private static void tellsWordsOfAVoidOne() {
        AsOfLedger x = Made.underWay();
        tells(x, 1, 4, 2, 1, 3, 1, 0, 5);
        tells(x, 1, 5, 2, 1, 3, 1, 0, 5);
    }
}
