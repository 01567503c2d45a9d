/** Promises 1 to 7 and 23: a new object, tables, rows, COUNTS, CHANGES, and how many there are. */
public final class TablesTest {
    private static final int NONE = IndexDesk.NONE;

    private TablesTest() {
    }

    public static void main(String[] args) {
        newObjectIsEmpty();
        tableIsToldOnce();
        tableLimits();
        putKeepsOrderAndLimits();
        putLooksOnlyAtColumnsThatAreThere();
        strikeMovesRowsUp();
        countsStandTillRecounted();
        countsOfColumns();
        countsWithoutRows();
        changesAreReplaced();
        countsHowManyThereAre();
        Check.finish();
    }

    private static void newObjectIsEmpty() {
        IndexDesk x = new IndexDesk();
        Check.due("NONE", IndexDesk.NONE, -1);
        for (int what = 0; what < 4; what++) {
            Check.due("new: count " + what, x.count(what), 0);
        }
        Check.due("new: built", x.built(), 0);
        Check.due("new: total(0)", x.total(0), 0);
        Check.due("new: choose", x.choose(10000), 0);
        Check.due("new: greedy", x.greedy(10000), 0);
        for (int t = -1; t < 5; t++) {
            Check.due("new: counts", x.counts(t, 0, 0), NONE);
            Check.due("new: recount", x.recount(t), NONE);
        }
    }

    private static void tableIsToldOnce() {
        IndexDesk x = new IndexDesk();
        Check.due("table(2, 3, 4)", x.table(2, 3, 4), true);
        Check.due("table(2, 3, 4) again", x.table(2, 3, 4), false);
        Check.due("table(2, 1, 2) again", x.table(2, 1, 2), false);
        Check.due("column 2 stayed", x.counts(2, 2, 2), 0);
        Check.due("others are not told", x.counts(1, 0, 0), NONE);
    }

    private static void tableLimits() {
        IndexDesk x = new IndexDesk();
        int[][] wrong = {
            {-1, 1, 2}, {4, 1, 2}, {Integer.MAX_VALUE, 1, 2}, {Integer.MIN_VALUE, 1, 2},
            {0, 0, 2}, {0, 5, 2}, {0, -1, 2}, {0, 1, 1}, {0, 1, 9}, {0, 1, 0}, {0, 1, -2},
        };
        for (int[] w : wrong) {
            Check.due("table(" + w[0] + ", " + w[1] + ", " + w[2] + ")", x.table(w[0], w[1], w[2]), false);
        }
        Check.due("refused tables", x.count(0), 0);
        Check.due("table(0, 1, 2)", x.table(0, 1, 2), true);
        Check.due("table(1, 4, 8)", x.table(1, 4, 8), true);
        Check.due("table(2, 1, 8)", x.table(2, 1, 8), true);
        Check.due("table(3, 4, 2)", x.table(3, 4, 2), true);
        Check.due("four tables", x.count(0), 4);
    }

    private static void putKeepsOrderAndLimits() {
        IndexDesk x = new IndexDesk();
        x.table(0, 4, 2);
        Check.due("put to no table", x.put(1, 0, 0, 0, 0), NONE);
        Check.due("put to table -1", x.put(-1, 0, 0, 0, 0), NONE);
        Check.due("put to table 4", x.put(4, 0, 0, 0, 0), NONE);
        for (int c = 0; c < 4; c++) {
            Check.due("put 1000 at " + c, putAt(x, c, 1000), NONE);
            Check.due("put -1 at " + c, putAt(x, c, -1), NONE);
        }
        Check.due("refused rows", x.counts(0, 0, 5), 0);
        for (int r = 0; r < 60; r++) {
            Check.due("put", x.put(0, r, 999, 0, 999 - r), r);
        }
        Check.due("61st row", x.put(0, 0, 0, 0, 0), NONE);
        Check.due("60 rows", x.counts(0, 0, 5), 60);
        x.strike(0, 10);
        Check.due("a place is free again", x.put(0, 7, 7, 7, 7), 59);
    }

    private static int putAt(IndexDesk x, int c, int value) {
        return x.put(0, c == 0 ? value : 5, c == 1 ? value : 5, c == 2 ? value : 5, c == 3 ? value : 5);
    }

    private static void putLooksOnlyAtColumnsThatAreThere() {
        IndexDesk x = new IndexDesk();
        x.table(0, 1, 2);
        x.table(1, 3, 2);
        Check.due("one column", x.put(0, 3, -1, 1000, Integer.MIN_VALUE), 0);
        Check.due("three columns", x.put(1, 3, 4, 5, 1000), 0);
        Check.due("third of three", x.put(1, 3, 4, 1000, 0), NONE);
    }

    private static void strikeMovesRowsUp() {
        IndexDesk x = new IndexDesk();
        x.table(0, 2, 2);
        for (int r = 0; r < 4; r++) {
            x.put(0, r, 10 * r, 0, 0);
        }
        Check.due("strike no table", x.strike(1, 0), false);
        Check.due("strike -1", x.strike(0, -1), false);
        Check.due("strike 4", x.strike(0, 4), false);
        Check.due("strike table -1", x.strike(-1, 0), false);
        Check.due("strike 1", x.strike(0, 1), true);
        Check.due("three are left", x.counts(0, 0, 5), 3);
        Check.due("strike 3", x.strike(0, 3), false);
        // Rows 0, 2 and 3 are left; 2 moved up onto the first page.
        x.question(0, 0, 1, 1);
        x.test(0, 0, 1, 3);
        Check.due("sum", x.run(0, 1), 50);
        x.test(0, 0, 1, 1);
        Check.due("the struck one is gone", x.run(0, 0), 0);
        Check.due("strike the last", x.strike(0, 2), true);
        x.test(0, 0, 0, 999);
        Check.due("sum of 0 and 2", x.run(0, 1), 20);
        x.strike(0, 0);
        x.strike(0, 0);
        Check.due("strike of nothing", x.strike(0, 0), false);
        Check.due("none is left", x.run(0, 0), 0);
    }

    private static void countsStandTillRecounted() {
        IndexDesk x = new IndexDesk();
        x.table(0, 1, 4);
        for (int r = 0; r < 9; r++) {
            x.put(0, 100 + r, 0, 0, 0);
        }
        Check.due("rows by counts", x.counts(0, 0, 0), 0);
        Check.due("pages by counts", x.counts(0, 0, 1), 0);
        Check.due("rows now", x.counts(0, 0, 5), 9);
        Check.due("recount", x.recount(0), 9);
        Check.due("pages, rounded up", x.counts(0, 0, 1), 3);
        x.strike(0, 0);
        Check.due("rows by counts stay", x.counts(0, 0, 0), 9);
        Check.due("pages by counts stay", x.counts(0, 0, 1), 3);
        Check.due("least stays", x.counts(0, 0, 3), 100);
        Check.due("unlike stays", x.counts(0, 0, 2), 9);
        Check.due("recount again", x.recount(0), 8);
        Check.due("whole pages", x.counts(0, 0, 1), 2);
        Check.due("least is new", x.counts(0, 0, 3), 101);
        Check.due("recount -1", x.recount(-1), NONE);
        Check.due("recount 1", x.recount(1), NONE);
        Check.due("recount 4", x.recount(4), NONE);
    }

    private static void countsOfColumns() {
        IndexDesk x = new IndexDesk();
        x.table(3, 3, 2);
        x.put(3, 5, 999, 4, 0);
        x.put(3, 7, 0, 4, 0);
        x.put(3, 5, 999, 4, 0);
        x.put(3, 6, 999, 4, 0);
        x.recount(3);
        int[][] due = {{3, 5, 7}, {2, 0, 999}, {1, 4, 4}};
        for (int c = 0; c < 3; c++) {
            for (int what = 2; what < 5; what++) {
                Check.due("counts(3, " + c + ", " + what + ")", x.counts(3, c, what), due[c][what - 2]);
                Check.due("no column 3", x.counts(3, 3, what), NONE);
                Check.due("no column -1", x.counts(3, -1, what), NONE);
            }
        }
        Check.due("0 does not look at c", x.counts(3, 77, 0), 4);
        Check.due("1 does not look at c", x.counts(3, -77, 1), 2);
        Check.due("5 does not look at c", x.counts(3, 4, 5), 4);
        Check.due("what 6", x.counts(3, 0, 6), NONE);
        Check.due("what -1", x.counts(3, 0, -1), NONE);
        Check.due("no table", x.counts(2, 0, 0), NONE);
        Check.due("table 4", x.counts(4, 0, 5), NONE);
    }

    private static void countsWithoutRows() {
        IndexDesk x = new IndexDesk();
        x.table(0, 1, 2);
        for (int what = 0; what < 6; what++) {
            Check.due("empty " + what, x.counts(0, 0, what), 0);
        }
        x.put(0, 9, 0, 0, 0);
        x.recount(0);
        x.strike(0, 0);
        Check.due("recount to nothing", x.recount(0), 0);
        for (int what = 0; what < 6; what++) {
            Check.due("empty again " + what, x.counts(0, 0, what), 0);
        }
    }

    private static void changesAreReplaced() {
        IndexDesk x = new IndexDesk();
        Check.due("changes of no table", x.changes(0, 5), false);
        x.table(0, 1, 2);
        x.order(0, 0, 0, NONE, NONE, 0);
        Check.due("no changes at first", x.total(1), 0);
        Check.due("changes -1", x.changes(0, -1), false);
        Check.due("changes 1001", x.changes(0, 1001), false);
        Check.due("changes of table -1", x.changes(-1, 1), false);
        Check.due("changes of table 4", x.changes(4, 1), false);
        Check.due("refused changes", x.total(1), 0);
        Check.due("changes 1000", x.changes(0, 1000), true);
        Check.due("keeping 1000", x.total(1), 2000);
        Check.due("changes 3", x.changes(0, 3), true);
        Check.due("keeping 3", x.total(1), 6);
        Check.due("refused", x.changes(0, 1001), false);
        Check.due("keeping 3 still", x.total(1), 6);
        Check.due("changes 0", x.changes(0, 0), true);
        Check.due("keeping 0", x.total(1), 0);
    }

    private static void countsHowManyThereAre() {
        IndexDesk x = new IndexDesk();
        x.table(0, 1, 2);
        x.table(3, 2, 2);
        x.put(0, 1, 0, 0, 0);
        x.put(3, 1, 1, 0, 0);
        x.put(3, 1, 1, 0, 0);
        x.question(3, 0, NONE, 1);
        x.sums(3, 3, 0);
        x.order(0, 4, 0, NONE, NONE, 0);
        x.part(3, 0, 1, 1, 0, 9);
        Check.due("tables", x.count(0), 2);
        Check.due("questions", x.count(1), 1);
        Check.due("aids", x.count(2), 3);
        Check.due("rows in all, not by counts", x.count(3), 3);
        x.strike(3, 0);
        Check.due("rows in all, one struck", x.count(3), 2);
        Check.due("count(4)", x.count(4), NONE);
        Check.due("count(-1)", x.count(-1), NONE);
    }
}
