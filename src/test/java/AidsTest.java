/** Promises 10 to 14: aids of each kind, building them, and what can be looked at. */
public final class AidsTest {
    private static final int NONE = IndexDesk.NONE;

    private AidsTest() {
    }

    public static void main(String[] args) {
        orderLimits();
        coveringLimits();
        partLimits();
        sumsLimits();
        atMost12Aids();
        buildAndUnbuild();
        oneClusterATable();
        roomOfEachKind();
        keepingOfEachKind();
        aloneAndWorth();
        wrongLooks();
        Check.finish();
    }

    /** Table 0: 10 rows, page 2, columns of 10, 5, 2 and 1 unlike values. */
    private static IndexDesk desk() {
        IndexDesk x = new IndexDesk();
        x.table(0, 4, 2);
        for (int r = 0; r < 10; r++) {
            x.put(0, r, r / 2, r % 2, 7);
        }
        x.recount(0);
        x.table(2, 2, 3);
        return x;
    }

    private static void orderLimits() {
        IndexDesk x = desk();
        int[][] wrong = {
            {1, 0, 0, NONE, NONE}, {-1, 0, 0, NONE, NONE}, {4, 0, 0, NONE, NONE},
            {0, 2, 0, NONE, NONE}, {0, 3, 0, NONE, NONE}, {0, 5, 0, NONE, NONE}, {0, -1, 0, NONE, NONE},
            {0, 0, NONE, NONE, NONE}, {0, 0, 4, NONE, NONE}, {0, 0, 0, 4, NONE}, {0, 0, 0, -2, NONE},
            {0, 0, 0, 1, 4}, {0, 0, 0, 1, -2}, {0, 0, 0, NONE, 1}, {0, 0, NONE, 0, 1},
            {0, 0, 1, 1, NONE}, {0, 0, 0, 1, 0}, {0, 0, 0, 1, 1}, {0, 4, 2, 2, NONE},
            {2, 0, 2, NONE, NONE}, {2, 0, 0, 1, 2},
        };
        for (int[] w : wrong) {
            Check.due("order(" + w[0] + ", " + w[1] + ", " + w[2] + ", " + w[3] + ", " + w[4] + ")",
                x.order(w[0], w[1], w[2], w[3], w[4], 0), NONE);
        }
        Check.due("refused aids", x.count(2), 0);
        Check.due("one column", x.order(0, 0, 3, NONE, NONE, 0), 0);
        Check.due("two columns", x.order(0, 0, 3, 0, NONE, -1), 1);
        Check.due("three columns", x.order(0, 4, 2, 3, 0, 1 << 20), 2);
        Check.due("kind 0", x.look(0, 0), 0);
        Check.due("kind 4", x.look(2, 0), 4);
        Check.due("not built", x.built(), 0);
    }

    private static void coveringLimits() {
        IndexDesk x = desk();
        Check.due("no further ones", x.order(0, 1, 0, NONE, NONE, 0), NONE);
        Check.due("only its own", x.order(0, 1, 0, 2, NONE, 5), NONE);
        Check.due("no such column", x.order(0, 1, 0, NONE, NONE, 16), NONE);
        Check.due("one such, one not", x.order(0, 1, 0, NONE, NONE, 18), NONE);
        Check.due("below 0", x.order(0, 1, 0, NONE, NONE, -1), NONE);
        Check.due("of two columns", x.order(2, 1, 0, NONE, NONE, 4), NONE);
        Check.due("refused", x.count(2), 0);
        Check.due("own and another", x.order(0, 1, 0, 2, NONE, 7), 0);
        Check.due("three and the fourth", x.order(0, 1, 0, 1, 2, 8), 1);
        Check.due("kind 1", x.look(1, 0), 1);
    }

    private static void partLimits() {
        IndexDesk x = desk();
        int[][] wrong = {
            {1, 0, NONE, 0, 0, 1}, {-1, 0, NONE, 0, 0, 1}, {0, NONE, NONE, 0, 0, 1}, {0, 4, NONE, 0, 0, 1},
            {0, 0, 0, 0, 0, 1}, {0, 0, 4, 0, 0, 1}, {0, 0, -2, 0, 0, 1}, {0, 0, 1, 4, 0, 1},
            {0, 0, 1, NONE, 0, 1}, {0, 0, 1, 2, 2, 1}, {0, 0, 1, 2, -1, 1}, {0, 0, 1, 2, 0, 1000},
            {2, 0, 1, 2, 0, 1},
        };
        for (int[] w : wrong) {
            Check.due("part(" + w[0] + ", " + w[1] + ", " + w[2] + ", " + w[3] + ", " + w[4] + ", " + w[5] + ")",
                x.part(w[0], w[1], w[2], w[3], w[4], w[5]), NONE);
        }
        Check.due("refused", x.count(2), 0);
        Check.due("of its own column", x.part(0, 0, NONE, 0, 0, 999), 0);
        Check.due("of another", x.part(0, 3, 2, 1, 5, 5), 1);
        Check.due("kind 2", x.look(1, 0), 2);
        Check.due("table 0", x.look(1, 1), 0);
    }

    private static void sumsLimits() {
        IndexDesk x = desk();
        int[][] wrong = {
            {1, 1, 0}, {-1, 1, 0}, {0, 0, 0}, {0, 7, 0}, {0, 15, 0}, {0, 16, 0}, {0, 17, 0}, {0, -1, 0},
            {0, Integer.MIN_VALUE, 0}, {0, 1, NONE}, {0, 1, 4}, {2, 4, 0}, {2, 1, 2},
        };
        for (int[] w : wrong) {
            Check.due("sums(" + w[0] + ", " + w[1] + ", " + w[2] + ")", x.sums(w[0], w[1], w[2]), NONE);
        }
        Check.due("refused", x.count(2), 0);
        Check.due("one column", x.sums(0, 8, 0), 0);
        Check.due("two columns", x.sums(0, 9, 3), 1);
        Check.due("of table 2", x.sums(2, 3, 1), 2);
        Check.due("kind 3", x.look(0, 0), 3);
        Check.due("table 2", x.look(2, 1), 2);
    }

    private static void atMost12Aids() {
        IndexDesk x = desk();
        for (int a = 0; a < 12; a++) {
            Check.due("aid", a % 2 == 0 ? x.sums(0, 1, 0) : x.order(0, 0, 0, NONE, NONE, 0), a);
        }
        Check.due("13th by order", x.order(0, 0, 0, NONE, NONE, 0), NONE);
        Check.due("13th by covering", x.order(0, 1, 0, NONE, NONE, 2), NONE);
        Check.due("13th by cluster", x.order(0, 4, 0, NONE, NONE, 0), NONE);
        Check.due("13th by part", x.part(0, 0, NONE, 0, 0, 0), NONE);
        Check.due("13th by sums", x.sums(0, 1, 0), NONE);
        Check.due("12 aids", x.count(2), 12);
        Check.due("the 12th", x.look(11, 0), 0);
        Check.due("build the 12th", x.build(11, true), true);
        Check.due("its bit", x.built(), 1 << 11);
        Check.due("room of all", x.room(4095), 6 * 3 + 6 * 3);
        Check.due("room beyond", x.room(4096), NONE);
    }

    private static void buildAndUnbuild() {
        IndexDesk x = desk();
        x.order(0, 0, 0, NONE, NONE, 0);
        x.sums(0, 1, 0);
        Check.due("not built", x.look(0, 3), 0);
        Check.due("it is so", x.build(0, false), false);
        Check.due("build 0", x.build(0, true), true);
        Check.due("is built", x.look(0, 3), 1);
        Check.due("it is so", x.build(0, true), false);
        Check.due("build 1", x.build(1, true), true);
        Check.due("built", x.built(), 3);
        Check.due("unbuild 0", x.build(0, false), true);
        Check.due("built", x.built(), 2);
        Check.due("no such aid", x.build(2, true), false);
        Check.due("no such aid", x.build(2, false), false);
        Check.due("no such aid", x.build(-1, true), false);
        Check.due("no such aid", x.build(12, true), false);
    }

    private static void oneClusterATable() {
        IndexDesk x = desk();
        x.order(0, 4, 0, NONE, NONE, 0);
        x.order(0, 4, 1, NONE, NONE, 0);
        x.order(2, 4, 0, NONE, NONE, 0);
        x.order(0, 0, 0, NONE, NONE, 0);
        Check.due("cluster 1", x.build(1, true), true);
        Check.due("another of its table", x.build(0, true), false);
        Check.due("of another table", x.build(2, true), true);
        Check.due("an order beside it", x.build(3, true), true);
        Check.due("built", x.built(), 14);
        Check.due("unbuild 1", x.build(1, false), true);
        Check.due("now 0", x.build(0, true), true);
        Check.due("built", x.built(), 13);
        Check.due("1 can't, now", x.build(1, true), false);
    }

    private static void roomOfEachKind() {
        IndexDesk x = desk();
        x.order(0, 0, 0, NONE, NONE, 0);
        x.order(0, 1, 0, NONE, NONE, 3);
        x.order(0, 1, 0, NONE, NONE, 14);
        x.part(0, 0, NONE, 1, 1, 3);
        x.part(0, 0, NONE, 1, 4, 4);
        x.part(0, 0, NONE, 1, 5, 9);
        x.part(0, 0, NONE, 1, 4, 999);
        x.sums(0, 2, 0);
        x.sums(0, 6, 0);
        x.sums(0, 3, 0);
        x.order(0, 4, 0, 1, 2, 0);
        // 10 rows by 4 entries a page; PART: 10 * 3 / 5 = 6, 10 / 5 = 2, none, 10 * 1 / 5 = 2;
        // GROUPS: 5, 5 * 2 = 10, and 10 * 5 but 10 rows at most.
        int[] due = {3, 5, 10, 2, 1, 0, 1, 2, 3, 3, 0};
        for (int a = 0; a < due.length; a++) {
            Check.due("room of aid " + a, x.look(a, 2), due[a]);
        }
        x.put(0, 10, 0, 0, 0);
        x.put(0, 11, 0, 0, 0);
        x.put(0, 12, 0, 0, 0);
        Check.due("by counts, not by rows", x.look(0, 2), 3);
        x.recount(0);
        Check.due("recounted", x.look(0, 2), 4);
    }

    private static void keepingOfEachKind() {
        IndexDesk x = desk();
        x.order(0, 0, 0, NONE, NONE, 0);
        x.order(0, 1, 0, NONE, NONE, 2);
        x.part(0, 0, NONE, 1, 1, 3);
        x.sums(0, 2, 0);
        x.order(0, 4, 0, NONE, NONE, 0);
        x.changes(0, 10);
        x.changes(2, 999);
        int[] due = {20, 30, 10, 20, 40};
        for (int a = 0; a < due.length; a++) {
            Check.due("keeping of aid " + a, x.total(1 << a), due[a]);
            Check.due("saved alone by aid " + a, x.look(a, 4), -due[a]);
        }
        Check.due("keeping of all", x.total(31), 120);
    }

    private static void aloneAndWorth() {
        IndexDesk x = desk();
        x.order(0, 0, 0, NONE, NONE, 0);
        x.order(0, 4, 0, NONE, NONE, 0);
        x.question(0, 0, NONE, 10);
        x.test(0, 0, 3, 3);
        // PLAIN 5; ORDER 1 + 1 + 1; CLUSTER 1 + 1.
        Check.due("0 alone", x.look(0, 4), 20);
        Check.due("1 alone", x.look(1, 4), 30);
        Check.due("no worth", x.look(0, 5), NONE);
        x.build(0, true);
        Check.due("worth by itself", x.look(0, 5), 20);
        x.build(1, true);
        Check.due("worth beside 1", x.look(0, 5), 0);
        Check.due("worth beside 0", x.look(1, 5), 10);
        Check.due("alone is still alone", x.look(0, 4), 20);
        x.changes(0, 3);
        Check.due("worth below 0", x.look(0, 5), -6);
        Check.due("worth of the cluster", x.look(1, 5), -2);
        Check.due("alone with keeping", x.look(0, 4), 14);
        Check.due("looking builds nothing", x.built(), 3);
    }

    private static void wrongLooks() {
        IndexDesk x = desk();
        x.order(2, 0, 0, NONE, NONE, 0);
        Check.due("look(0, 6)", x.look(0, 6), NONE);
        Check.due("look(0, -1)", x.look(0, -1), NONE);
        for (int what = -1; what < 7; what++) {
            Check.due("look(1, " + what + ")", x.look(1, what), NONE);
            Check.due("look(-1, " + what + ")", x.look(-1, what), NONE);
            Check.due("look(12, " + what + ")", x.look(12, what), NONE);
        }
        Check.due("table of aid 0", x.look(0, 1), 2);
        Check.due("room without rows", x.look(0, 2), 0);
    }
}
