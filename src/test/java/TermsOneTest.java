/** Part 1 of "Terms": tables, rows, COUNTS, questions, each sentence at its boundaries. */
public final class TermsOneTest {
    private static final int NONE = Desks.NONE;
    private static final int LOW = Desks.LOW;
    private static final int HIGH = Desks.HIGH;

    private TermsOneTest() {
    }

    public static void main(String[] args) {
        the512thCall();
        tables0To3();
        columns1To4();
        page2To8();
        atMost60Rows();
        rowsInTheOrderInWhichTheyCame();
        values0To999();
        struckRows();
        pagesOfPlaces();
        pagesOfPlacesWhateverIsBuilt();
        countsStand();
        countsWithoutRows();
        pagesRoundedUp();
        questions24();
        weight1To100();
        wantsMayBeNone();
        addsUpOrNone();
        testsOfEachColumn();
        answers();
        changes0To1000();
        Check.finish();
    }

    private static void the512thCall() {
        Check.sentence("An object is used for at most 512 calls after it has been made");
        IndexDesk x = Desks.counting(1, 2, 20);
        // 22 calls so far.
        Desks.by(x, 0, 0, 0, 0);
        Desks.ask(x, 0, 0, 3, 3);
        for (int call = 26; call < 512; call++) {
            Check.due("call " + call, x.choose(5), 1);
        }
        Check.due("the 512th call", x.greedy(5), 1);
    }

    private static void tables0To3() {
        Check.sentence("TABLES 0 to 3");
        IndexDesk x = new IndexDesk();
        for (int t : new int[] {LOW, -4, -1, 4, 5, 32, 256, HIGH}) {
            Check.due(Desks.said("table", t), x.table(t, 1, 2), false);
            Check.due("no table", x.count(0), 0);
        }
        for (int t = 0; t < 4; t++) {
            Check.due(Desks.said("table", t), x.table(t, 1, 2), true);
            Check.due("its first row", x.put(t, t, 0, 0, 0), 0);
        }
        Check.due("tables", x.count(0), 4);
    }

    private static void columns1To4() {
        Check.sentence("each with 1 to 4 COLUMNS");
        IndexDesk x = new IndexDesk();
        for (int columns : new int[] {LOW, -1, 0, 5, 33, 36, HIGH}) {
            Check.due("columns " + columns, x.table(0, columns, 2), false);
        }
        for (int columns = 1; columns <= 4; columns++) {
            int t = columns - 1;
            Check.due("columns " + columns, x.table(t, columns, 2), true);
            Check.due("the last column", x.counts(t, columns - 1, 2), 0);
            Check.due("none behind it", x.counts(t, columns, 2), NONE);
        }
    }

    private static void page2To8() {
        Check.sentence("a PAGE of 2 to 8 ROWS");
        for (int page : new int[] {LOW, -2, 0, 1, 9, 10, HIGH}) {
            Check.due("page " + page, new IndexDesk().table(0, 1, page), false);
        }
        for (int page = 2; page <= 8; page++) {
            IndexDesk x = new IndexDesk();
            Check.due("page " + page, x.table(0, 1, page), true);
            for (int r = 0; r < page; r++) {
                x.put(0, 0, 0, 0, 0);
            }
            x.recount(0);
            Check.due("a full page of " + page, x.counts(0, 0, 1), 1);
            x.put(0, 0, 0, 0, 0);
            x.recount(0);
            Check.due("a row above " + page, x.counts(0, 0, 1), 2);
        }
    }

    private static void atMost60Rows() {
        Check.sentence("at most 60 ROWS, in the order in which they came, of ints 0 to 999.");
        IndexDesk x = new IndexDesk();
        for (int t = 0; t < 4; t++) {
            x.table(t, 1, 2);
            for (int r = 0; r < 60; r++) {
                Check.due("put", x.put(t, r, 0, 0, 0), r);
            }
            Check.due("the 61st of a table", x.put(t, 0, 0, 0, 0), NONE);
            Check.due("rows", x.counts(t, 0, 5), 60);
        }
        Check.due("60 of each table", x.count(3), 240);
        Check.due("counted", x.recount(3), 60);
        x.strike(3, 59);
        Check.due("the 60th again", x.put(3, 0, 0, 0, 0), 59);
        Check.due("the 61st again", x.put(3, 0, 0, 0, 0), NONE);
    }

    private static void rowsInTheOrderInWhichTheyCame() {
        Check.sentence("at most 60 ROWS, in the order in which they came, of ints 0 to 999.");
        IndexDesk x = Desks.of(2, new int[] {5}, new int[] {900}, new int[] {0}, new int[] {40});
        Check.due("rows", drained(x), "5 900 0 40 ");
    }

    /** Strikes the first row of table 0 again and again: the values of column 0 in their order. */
    private static String drained(IndexDesk x) {
        int q = x.question(0, 0, 0, 1);
        StringBuilder values = new StringBuilder();
        for (int left = x.counts(0, 0, 5); left > 0; left--) {
            int before = x.run(q, 1);
            x.strike(0, 0);
            values.append(before - x.run(q, 1)).append(' ');
        }
        return values.toString();
    }

    private static void values0To999() {
        Check.sentence("at most 60 ROWS, in the order in which they came, of ints 0 to 999.");
        IndexDesk x = new IndexDesk();
        x.table(0, 4, 2);
        for (int c = 0; c < 4; c++) {
            for (int value : new int[] {LOW, -1000, -1, 1000, 1001, HIGH}) {
                Check.due("value " + value + " in column " + c, putAt(x, c, value), NONE);
            }
        }
        Check.due("rows", x.counts(0, 0, 5), 0);
        for (int c = 0; c < 4; c++) {
            Check.due("0 in column " + c, putAt(x, c, 0), 2 * c);
            Check.due("999 in column " + c, putAt(x, c, 999), 2 * c + 1);
        }
        x.recount(0);
        for (int c = 0; c < 4; c++) {
            Check.due("the least", x.counts(0, c, 3), 0);
            Check.due("the greatest", x.counts(0, c, 4), 999);
        }
    }

    private static int putAt(IndexDesk x, int c, int value) {
        return x.put(0, c == 0 ? value : 7, c == 1 ? value : 7, c == 2 ? value : 7, c == 3 ? value : 7);
    }

    private static void struckRows() {
        Check.sentence("A ROW that is struck is gone, those behind it move up.");
        for (int n : new int[] {1, 2, 3, 60}) {
            for (int struck : new int[] {0, n / 2, n - 1}) {
                IndexDesk x = Desks.counting(1, 2, n);
                Check.due("strike " + struck + " of " + n, x.strike(0, struck), true);
                StringBuilder left = new StringBuilder();
                for (int r = 0; r < n; r++) {
                    left.append(r == struck ? "" : r + " ");
                }
                Check.due("rows now", x.counts(0, 0, 5), n - 1);
                Check.due("left of " + n + " without " + struck, drained(x), left.toString());
            }
        }
        IndexDesk x = Desks.of(2, new int[] {1, 2, 3, 4}, new int[] {5, 6, 7, 8}, new int[] {9, 10, 11, 12});
        x.strike(0, 1);
        x.recount(0);
        for (int c = 0; c < 4; c++) {
            Check.due("two values in column " + c, x.counts(0, c, 2), 2);
            Check.due("the first row in column " + c, x.counts(0, c, 3), 1 + c);
            Check.due("the third row in column " + c, x.counts(0, c, 4), 9 + c);
        }
    }

    private static void pagesOfPlaces() {
        Check.sentence("The ROW at place r lies on page r / PAGE.");
        for (int page = 2; page <= 8; page++) {
            IndexDesk x = Desks.counting(1, page, 60);
            x.build(Desks.by(x, 0, 0, 0, 0), true);
            int q = Desks.ask(x, 0, 0, 0, 1);
            for (int r = 0; r < 59; r++) {
                x.test(q, 0, r, r + 1);
                int pages = (r + 1) % page == 0 ? 2 : 1;
                Check.due("places " + r + " and " + (r + 1) + ", page " + page, x.run(q, 2), 2 + pages);
            }
            // Behind the struck one each place is one less.
            x.strike(0, 0);
            for (int r = 1; r < 59; r++) {
                x.test(q, 0, r, r + 1);
                Check.due("moved up to " + r, x.run(q, 2), 2 + (r % page == 0 ? 2 : 1));
            }
            x.test(q, 0, 1, 1);
            Check.due("the first place alone", x.run(q, 2), 3);
            x.test(q, 0, 59, 59);
            Check.due("the last place alone", x.run(q, 2), 3);
            x.test(q, 0, 0, 0);
            Check.due("no place", x.run(q, 2), 1);
        }
    }

    private static void pagesOfPlacesWhateverIsBuilt() {
        Check.sentence("The ROW at place r lies on page r / PAGE.");
        IndexDesk x = new IndexDesk();
        x.table(0, 2, 2);
        // Ordered by column 0, the rows that have 3 would lie on two pages; by place, on four.
        for (int r = 0; r < 20; r++) {
            x.put(0, r % 5, r % 5, 0, 0);
        }
        x.recount(0);
        int order = Desks.by(x, 0, 0, 1, 0);
        int cluster = Desks.by(x, 0, 4, 0, 0);
        int q = Desks.ask(x, 0, 1, 3, 3);
        x.build(order, true);
        Check.due("places 3, 8, 13, 18", x.run(q, 2), 1 + 1 + 4);
        Check.due("the cluster is built", x.build(cluster, true), true);
        Check.due("by the order still", x.plan(q), order);
        Check.due("the same pages", x.run(q, 2), 1 + 1 + 4);
    }

    private static void countsStand() {
        Check.sentence("COUNTS of a TABLE are taken when it is told and when it is RECOUNTED (not when ROWS change)");
        IndexDesk x = new IndexDesk();
        x.table(0, 1, 2);
        Desks.by(x, 0, 0, 0, 0);
        int q = Desks.ask(x, 0, 0, 50, 50);
        dueCounts(x, "told", 0, 0, 0, 0);
        for (int r = 0; r < 9; r++) {
            x.put(0, 50 + r, 0, 0, 0);
            dueCounts(x, "put", 0, 0, 0, 0);
        }
        Check.due("cost by no rows", x.cost(q, 0), 1);
        Check.due("recount", x.recount(0), 9);
        dueCounts(x, "recounted", 9, 9, 50, 58);
        x.strike(0, 0);
        x.strike(0, 7);
        dueCounts(x, "struck", 9, 9, 50, 58);
        Check.due("room by 9 rows", x.look(0, 2), 3);
        Check.due("recount", x.recount(0), 7);
        dueCounts(x, "recounted again", 7, 7, 51, 57);
        Check.due("room by 7 rows", x.look(0, 2), 2);
        x.table(1, 1, 2);
        x.put(1, 3, 0, 0, 0);
        x.recount(0);
        Check.due("of the other table none is taken", x.counts(1, 0, 0), 0);
    }

    private static void dueCounts(IndexDesk x, String when, int rows, int unlike, int least, int greatest) {
        Check.due(when + ": rows", x.counts(0, 0, 0), rows);
        Check.due(when + ": pages", x.counts(0, 0, 1), Desks.up(rows, 2));
        Check.due(when + ": unlike", x.counts(0, 0, 2), unlike);
        Check.due(when + ": least", x.counts(0, 0, 3), least);
        Check.due(when + ": greatest", x.counts(0, 0, 4), greatest);
    }

    private static void countsWithoutRows() {
        Check.sentence("how many ROWS; of each COLUMN how many UNLIKE values, the LEAST and the GREATEST (0 without ROWS).");
        IndexDesk x = Desks.of(2, new int[] {999});
        dueCounts(x, "one row", 1, 1, 999, 999);
        x.strike(0, 0);
        Check.due("recount", x.recount(0), 0);
        dueCounts(x, "none left", 0, 0, 0, 0);
        x.put(0, 0, 0, 0, 0);
        x.recount(0);
        dueCounts(x, "a row of 0", 1, 1, 0, 0);
        IndexDesk y = Desks.of(2, new int[] {4}, new int[] {4}, new int[] {2}, new int[] {4}, new int[] {2});
        dueCounts(y, "like values", 5, 2, 2, 4);
        dueCounts(Desks.counting(1, 2, 60), "60 unlike ones", 60, 60, 0, 59);
        dueCounts(Desks.of(2, new int[] {0}, new int[] {999}), "both ends", 2, 2, 0, 999);
    }

    private static void pagesRoundedUp() {
        Check.sentence("PAGES by COUNTS: ROWS / PAGE, rounded up.");
        for (int page = 2; page <= 8; page++) {
            IndexDesk x = new IndexDesk();
            x.table(0, 1, page);
            int q = x.question(0, 0, NONE, 1);
            Check.due("pages of no rows", x.counts(0, 0, 1), 0);
            for (int rows = 1; rows <= 60; rows++) {
                x.put(0, 0, 0, 0, 0);
                x.recount(0);
                int pages = rows / page + (rows % page == 0 ? 0 : 1);
                Check.due("pages of " + rows + " by " + page, x.counts(0, 0, 1), pages);
                Check.due("plain by them", x.cost(q, NONE), pages);
                Check.due("the pages now", x.run(q, 2), pages);
            }
        }
    }

    private static void questions24() {
        Check.sentence("QUESTIONS, 24 at most");
        IndexDesk x = Desks.counting(1, 2, 4);
        Desks.count(x, 3, 1, 2, 4);
        for (int q = 0; q < 24; q++) {
            Check.due("no such question yet", x.plan(q), -2);
            Check.due("question", x.question(q % 2 == 0 ? 0 : 3, 0, NONE, 1), q);
        }
        Check.due("the 25th of table 0", x.question(0, 0, NONE, 1), NONE);
        Check.due("the 25th of table 3", x.question(3, 0, NONE, 1), NONE);
        Check.due("questions", x.count(1), 24);
        Check.due("the 24th", x.run(23, 0), 4);
        Check.due("no 25th", x.run(24, 0), NONE);
        Check.due("all are weighed", x.total(0), 24 * 2);
    }

    private static void weight1To100() {
        Check.sentence("of a TABLE, with a WEIGHT (1 to 100)");
        for (int weight : new int[] {LOW, -1, 0, 101, 257, HIGH}) {
            IndexDesk x = Desks.counting(1, 2, 20);
            Check.due("weight " + weight, x.question(0, 0, NONE, weight), NONE);
            Check.due("nothing is weighed", x.total(0), 0);
        }
        for (int weight : new int[] {1, 2, 99, 100}) {
            IndexDesk x = Desks.counting(1, 2, 20);
            Check.due("weight " + weight, x.question(0, 0, NONE, weight), 0);
            Check.due("10 pages by " + weight, x.total(0), 10 * weight);
        }
        IndexDesk x = Desks.counting(1, 2, 60);
        for (int q = 0; q < 24; q++) {
            x.question(0, 0, NONE, 100);
        }
        Check.due("the greatest weights in all", x.total(0), 24 * 100 * 30);
    }

    private static void wantsMayBeNone() {
        Check.sentence("COLUMNS it WANTS (bits, may be none)");
        for (int columns = 1; columns <= 4; columns++) {
            IndexDesk x = Desks.counting(columns, 2, 4);
            int all = 1 << columns;
            for (int wants : new int[] {LOW, -1, all, all + 1, 2 * all, 1 << 8, 1 << 30, HIGH}) {
                Check.due("wants " + wants + " of " + columns, x.question(0, wants, NONE, 1), NONE);
            }
            for (int wants = 0; wants < all; wants++) {
                Check.due("wants " + wants + " of " + columns, x.question(0, wants, NONE, 1), wants);
            }
        }
    }

    private static void addsUpOrNone() {
        Check.sentence("a COLUMN it ADDS UP (or NONE)");
        for (int columns = 1; columns <= 4; columns++) {
            IndexDesk x = new IndexDesk();
            x.table(0, columns, 2);
            x.put(0, 1, 20, 300, 400);
            for (int adds : new int[] {LOW, -2, columns, columns + 1, 32, HIGH}) {
                Check.due("adds up " + adds + " of " + columns, x.question(0, 0, adds, 1), NONE);
            }
            Check.due("adds up none", x.question(0, 0, NONE, 1), 0);
            Check.due("nothing", x.run(0, 1), 0);
            int[] sums = {1, 20, 300, 400};
            for (int adds = 0; adds < columns; adds++) {
                Check.due("adds up " + adds, x.question(0, 0, adds, 1), adds + 1);
                Check.due("its sum", x.run(adds + 1, 1), sums[adds]);
            }
        }
    }

    private static void testsOfEachColumn() {
        Check.sentence("TESTS: of each COLUMN at most one: from a value to another one (0 to 999; ALIKE if they are one).");
        IndexDesk x = Desks.counting(4, 2, 60);
        int q = x.question(0, 0, NONE, 1);
        int[][] wrong = {{LOW, 0}, {-1, 0}, {-1, -1}, {0, 1000}, {999, 1000}, {1000, 1000}, {0, HIGH}, {LOW, HIGH},
            {1, 0}, {999, 998}, {999, 0}, {HIGH, LOW}, {0, -1}};
        for (int[] w : wrong) {
            Check.due(Desks.said("test", q, 0, w[0], w[1]), x.test(q, 0, w[0], w[1]), false);
            Check.due("all pass still", x.run(q, 0), 60);
        }
        int[][] right = {{0, 0, 1}, {0, 1, 2}, {0, 999, 60}, {998, 999, 0}, {999, 999, 0}, {59, 59, 1}, {58, 999, 2}};
        for (int[] w : right) {
            Check.due(Desks.said("test", q, 0, w[0], w[1]), x.test(q, 0, w[0], w[1]), true);
            Check.due("in place of the one before", x.run(q, 0), w[2]);
        }
        for (int c = 0; c < 4; c++) {
            x.test(q, c, 10 + c, 30 - c);
        }
        Check.due("one of each column: 13 to 27", x.run(q, 0), 15);
        x.test(q, 3, 0, 999);
        Check.due("12 to 28", x.run(q, 0), 17);
        alikeIfTheyAreOne();
    }

    private static void alikeIfTheyAreOne() {
        IndexDesk x = Desks.counting(2, 2, 40);
        x.order(0, 0, 0, 1, NONE, 0);
        int q = Desks.ask(x, 0, 0, 5, 5);
        x.test(q, 1, 39, 999);
        // ALIKE: 1 row, then 1 of it. Not ALIKE: 2 rows, and the second column is not used.
        Check.due("5 to 5", x.cost(q, 0), 1 + 1 + 1);
        x.test(q, 0, 5, 6);
        Check.due("5 to 6", x.cost(q, 0), 1 + 1 + 2);
    }

    private static void answers() {
        Check.sentence("Its ANSWER: those ROWS that pass all TESTS: how many, and the sum of that COLUMN (0 without).");
        IndexDesk x = Desks.of(2, new int[] {4, 1}, new int[] {5, 2}, new int[] {6, 3}, new int[] {7, 4}, new int[] {8, 5});
        int q = x.question(0, 0, 0, 1);
        Check.due("without tests: all", x.run(q, 0), 5);
        x.test(q, 0, 5, 7);
        Check.due("both ends pass", x.run(q, 0), 3);
        Check.due("their sum", x.run(q, 1), 18);
        x.test(q, 1, 4, 4);
        Check.due("all tests", x.run(q, 0), 1);
        Check.due("its sum", x.run(q, 1), 7);
        x.test(q, 1, 5, 999);
        Check.due("none passes both", x.run(q, 0), 0);
        Check.due("the sum of none", x.run(q, 1), 0);
        IndexDesk empty = new IndexDesk();
        empty.table(0, 1, 2);
        empty.question(0, 1, 0, 1);
        Check.due("no rows", empty.run(0, 0), 0);
        Check.due("the sum of no rows", empty.run(0, 1), 0);
        for (int r = 0; r < 60; r++) {
            empty.put(0, 999, 0, 0, 0);
        }
        Check.due("as rows are now", empty.run(0, 0), 60);
        Check.due("the greatest sum", empty.run(0, 1), 60 * 999);
    }

    private static void changes0To1000() {
        Check.sentence("CHANGES of a TABLE: how many (0 to 1000) there are.");
        IndexDesk x = Desks.counting(1, 2, 4);
        Desks.count(x, 1, 1, 2, 4);
        Desks.by(x, 0, 0, 0, 0);
        Desks.by(x, 1, 0, 0, 0);
        Check.due("none at first", x.total(1), 0);
        for (int n : new int[] {1, 999, 1000, 0, 1000}) {
            Check.due("changes " + n, x.changes(0, n), true);
            Check.due("kept", x.total(1), 2 * n);
            Check.due("not of the other table", x.total(2), 0);
        }
        for (int n : new int[] {LOW, -1, 1001, HIGH}) {
            Check.due("changes " + n, x.changes(0, n), false);
            Check.due("kept as before", x.total(1), 2000);
        }
    }
}
