/**
 * All promises: each call with every combination of numbers that lie at, just before and just behind a limit, of a
 * desk that is new, one in use and one that is full, held against the Model. A call that throws ends the test.
 */
public final class EdgesTest {
    private static final int LOW = Desks.LOW;
    private static final int HIGH = Desks.HIGH;

    private static final int[] TABLE = {LOW, -1, 0, 1, 2, 3, 4, HIGH};
    private static final int[] FEW_TABLES = {-1, 0, 1, 2};
    private static final int[] COLUMN = {LOW, -2, -1, 0, 1, 2, 3, 4, 32, HIGH};
    private static final int[] FEW_COLUMNS = {-2, -1, 0, 1, 2, 3, 32};
    private static final int[] VALUE = {LOW, -1, 0, 1, 998, 999, 1000, HIGH};
    private static final int[] FEW_VALUES = {-1, 0, 5, 999, 1000};
    private static final int[] BITS = {LOW, -1, 0, 1, 2, 3, 4, 5, 6, 7, 8, 15, 16, 1 << 30, HIGH};
    private static final int[] PAGE = {LOW, -1, 0, 1, 2, 3, 8, 9, HIGH};
    private static final int[] ROW = {LOW, -1, 0, 1, 28, 29, 30, 58, 59, 60, HIGH};
    private static final int[] WHAT = {LOW, -1, 0, 1, 2, 3, 4, 5, 6, 7, 32, HIGH};
    private static final int[] CHANGES = {LOW, -1, 0, 1, 999, 1000, 1001, HIGH};
    private static final int[] WEIGHT = {LOW, -1, 0, 1, 99, 100, 101, HIGH};
    private static final int[] QUESTION = {LOW, -2, -1, 0, 1, 2, 3, 4, 22, 23, 24, 25, 32, HIGH};
    private static final int[] AID = {LOW, -2, -1, 0, 1, 2, 3, 4, 5, 6, 7, 10, 11, 12, 13, 32, HIGH};
    private static final int[] KIND = {LOW, -1, 0, 1, 2, 3, 4, 5, HIGH};
    private static final int[] FURTHER = {LOW, -1, 0, 1, 2, 6, 7, 8, HIGH};
    private static final int[] ROOM = {LOW, -1, 0, 1, 2, 7, 8, 14, 15, 16, 9999, 10000, 10001, HIGH};
    private static final int[] SET = {LOW, -1, 0, 1, 16, 32, 48, 127, 128, 111, 4095, 4047, 4096, HIGH};
    private static final int[] IS = {0, 1};

    /** The parameters of each call, in the order of Pair.NAMES. */
    private static final int[][][] PARAMETERS = {
        {TABLE, {LOW, -1, 0, 1, 2, 4, 5, HIGH}, PAGE},
        {TABLE, VALUE, VALUE, VALUE, VALUE},
        {TABLE, ROW},
        {TABLE},
        {TABLE, COLUMN, WHAT},
        {TABLE, CHANGES},
        {TABLE, BITS, COLUMN, WEIGHT},
        {QUESTION, COLUMN, VALUE, VALUE},
        {FEW_TABLES, KIND, FEW_COLUMNS, FEW_COLUMNS, FEW_COLUMNS, FURTHER},
        {FEW_TABLES, FEW_COLUMNS, FEW_COLUMNS, FEW_COLUMNS, FEW_VALUES, FEW_VALUES},
        {TABLE, BITS, COLUMN},
        {AID, IS},
        {AID, WHAT},
        {QUESTION, AID},
        {QUESTION},
        {QUESTION, WHAT},
        {SET},
        {SET},
        {},
        {ROOM},
        {ROOM},
        {WHAT},
    };

    private final int state;
    private Pair pair;

    private EdgesTest(int state) {
        this.state = state;
        pair = made();
    }

    public static void main(String[] args) {
        for (int state = 0; state < 3; state++) {
            EdgesTest test = new EdgesTest(state);
            for (int which = 0; which < PARAMETERS.length && Check.allRight(); which++) {
                test.callAll(which, new int[PARAMETERS[which].length], 0);
            }
        }
        Check.finish();
    }

    private void callAll(int which, int[] v, int given) {
        if (given < v.length) {
            for (int value : PARAMETERS[which][given]) {
                v[given] = value;
                callAll(which, v, given + 1);
            }
            return;
        }
        if (!Check.allRight()) {
            return;
        }
        long answer = pair.call(which, v);
        // Each call is to meet the same desk, and none that has had its 512 calls.
        boolean isChanged = which < Pair.TELLS_TRUE.length && answer != (Pair.TELLS_TRUE[which] ? 0 : -1);
        if (isChanged || pair.calls >= 500) {
            lookAtAll(which, v);
            pair = made();
        }
    }

    private void lookAtAll(int which, int[] v) {
        for (int what = 0; what < 4; what++) {
            pair.call(21, what);
        }
        pair.call(18);
        pair.call(16, pair.model.built());
        if (which >= 8 && which <= 10) {
            int aid = pair.model.count(2) - 1;
            pair.call(12, aid, 0);
            pair.call(12, aid, 2);
            pair.call(12, aid, 4);
            pair.call(13, 0, aid);
            pair.call(13, 1, aid);
        } else if (which == 7) {
            pair.call(15, v[0], 0);
            pair.call(15, v[0], 2);
            pair.call(15, v[0], 3);
        }
    }

    private Pair made() {
        Pair made = new Pair();
        if (state > 0) {
            use(made);
        }
        if (state > 1) {
            fill(made);
        }
        return made;
    }

    private static void use(Pair p) {
        p.call(0, 0, 3, 2);
        p.call(0, 2, 1, 5);
        for (int r = 0; r < 29; r++) {
            p.call(1, 0, r % 10, r, r % 3, 0);
        }
        p.call(1, 2, 7, 0, 0, 0);
        p.call(3, 0);
        p.call(5, 0, 1);
        p.call(6, 0, 7, -1, 9);
        p.call(7, 0, 0, 4, 4);
        p.call(6, 0, 0, 1, 5);
        p.call(7, 1, 0, 2, 6);
        p.call(6, 2, 1, 0, 7);
        p.call(8, 0, 0, 0, 1, -1, 0);
        p.call(8, 0, 1, 0, -1, -1, 6);
        p.call(9, 0, 1, -1, 0, 2, 6);
        p.call(10, 0, 1, 1);
        p.call(8, 0, 4, 0, -1, -1, 0);
        p.call(8, 0, 4, 1, -1, -1, 0);
        p.call(8, 2, 0, 0, -1, -1, 0);
        p.call(11, 0, 1);
        p.call(11, 4, 1);
    }

    private static void fill(Pair p) {
        p.call(0, 1, 4, 8);
        p.call(0, 3, 2, 3);
        for (int r = 29; r < 60; r++) {
            p.call(1, 0, 5, 5, 5, 0);
        }
        for (int q = 3; q < 24; q++) {
            p.call(6, 0, 2, -1, q);
        }
        for (int a = 7; a < 12; a++) {
            p.call(9, 2, 0, -1, 0, a - 7, a);
        }
    }
}
