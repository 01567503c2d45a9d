/** Promises 15, 16 and 17: what questions cost, their plans, and what a run fetches. */
public final class CostsTest {
    private static final int NONE = IndexDesk.NONE;

    private CostsTest() {
    }

    public static void main(String[] args) {
        wrongCosts();
        whatAnOrderUses();
        whatPassesByCounts();
        coveringSparesFetching();
        partHelpsWithin();
        sumsHelp();
        clusterCosts();
        costsWithoutRows();
        plansAndTies();
        runOfPlainAndOrder();
        runOfCoveringAndCluster();
        runOfPart();
        runOfSums();
        Check.finish();
    }

    /**
     * Table 0, page 2, 24 rows: column 0 has 6 values (0 to 5), column 1 has 4 (0, 10, 20, 30),
     * column 2 has 24 (0 to 23), column 3 has one (500).
     */
    private static IndexDesk desk() {
        IndexDesk x = new IndexDesk();
        x.table(0, 4, 2);
        for (int r = 0; r < 24; r++) {
            x.put(0, r % 6, 10 * (r % 4), r, 500);
        }
        x.recount(0);
        return x;
    }

    private static void wrongCosts() {
        IndexDesk x = desk();
        x.table(1, 1, 2);
        x.order(1, 0, 0, NONE, NONE, 0);
        x.order(0, 0, 0, NONE, NONE, 0);
        Check.due("no question", x.cost(0, NONE), NONE);
        x.question(0, 0, NONE, 1);
        x.test(0, 0, 0, 0);
        Check.due("plain", x.cost(0, NONE), 12);
        Check.due("aid of another table", x.cost(0, 0), NONE);
        Check.due("aid 2", x.cost(0, 2), NONE);
        Check.due("aid -2", x.cost(0, -2), NONE);
        Check.due("aid 12", x.cost(0, 12), NONE);
        Check.due("question -1", x.cost(-1, 1), NONE);
        Check.due("question 1", x.cost(1, 1), NONE);
        Check.due("it need not be built", x.cost(0, 1), 1 + 1 + 4);
    }

    private static void whatAnOrderUses() {
        IndexDesk x = desk();
        x.order(0, 0, 0, 1, 2, 0);
        x.question(0, 15, NONE, 1);
        Check.due("no test", x.cost(0, 0), NONE);
        x.test(0, 1, 10, 10);
        x.test(0, 2, 0, 5);
        Check.due("not of the first column", x.cost(0, 0), NONE);
        x.test(0, 0, 1, 2);
        Check.due("a range first: 24 * 2 / 6", x.cost(0, 0), 1 + 2 + 8);
        x.test(0, 0, 1, 1);
        Check.due("alike, alike, range: 4, 1, 1", x.cost(0, 0), 1 + 1 + 1);
        x.test(0, 2, 5, 5);
        Check.due("all three alike: 4, 1, 1", x.cost(0, 0), 1 + 1 + 1);
        x.build(0, true);
        Check.due("all three alike: place 5 has another first value", x.run(0, 2), 1);
        x.build(0, false);
        x.test(0, 1, 10, 20);
        // 24 / 6 = 4; 4 * 11 / 31 = 2, rounded up; the third is not used.
        Check.due("alike, range", x.cost(0, 0), 1 + 1 + 2);
        x.question(0, 0, NONE, 1);
        x.test(1, 0, 1, 1);
        x.test(1, 2, 3, 3);
        Check.due("a gap ends it", x.cost(1, 0), 1 + 1 + 4);
        x.test(1, 0, 0, 5);
        Check.due("all rows: pages are fewer", x.cost(1, 0), 1 + 6 + 12);
    }

    private static void whatPassesByCounts() {
        IndexDesk x = desk();
        x.order(0, 0, 1, NONE, NONE, 0);
        x.question(0, 0, NONE, 1);
        int[][] cases = {
            // from, to, MATCHED of 24 rows, 4 values, 0 to 30
            {0, 0, 6}, {5, 5, 6}, {30, 30, 6}, {31, 31, 0}, {999, 999, 0},
            {0, 30, 24}, {0, 999, 24}, {30, 999, 1}, {31, 999, 0}, {0, 1, 2}, {10, 20, 9}, {29, 31, 2},
        };
        for (int[] c : cases) {
            x.test(0, 0, 0, 999);
            x.test(0, 1, c[0], c[1]);
            int due = 1 + (c[2] + 3) / 4 + Math.min(c[2], 12);
            Check.due("cost by " + c[0] + " to " + c[1], x.cost(0, 0), due);
        }
        IndexDesk y = new IndexDesk();
        y.table(0, 1, 2);
        y.put(0, 50, 0, 0, 0);
        y.put(0, 59, 0, 0, 0);
        y.put(0, 59, 0, 0, 0);
        y.recount(0);
        y.order(0, 0, 0, NONE, NONE, 0);
        y.question(0, 0, NONE, 1);
        y.test(0, 0, 49, 49);
        Check.due("alike below least", y.cost(0, 0), 1);
        y.test(0, 0, 0, 49);
        Check.due("range below least", y.cost(0, 0), 1);
        y.test(0, 0, 0, 50);
        Check.due("range touches least: 3 * 1 / 10", y.cost(0, 0), 1 + 1 + 1);
        y.test(0, 0, 52, 52);
        Check.due("alike between: 3 / 2", y.cost(0, 0), 1 + 1 + 2);
    }

    private static void coveringSparesFetching() {
        IndexDesk x = desk();
        x.order(0, 1, 0, NONE, NONE, 6);
        x.question(0, 6, 0, 1);
        Check.due("uses nothing", x.cost(0, 0), NONE);
        x.test(0, 0, 1, 1);
        Check.due("covers wants, tests, adds", x.cost(0, 0), 1 + 1);
        x.test(0, 3, 0, 999);
        Check.due("tests a column beyond", x.cost(0, 0), 1 + 1 + 4);
        x.question(0, 8, NONE, 1);
        x.test(1, 0, 1, 1);
        Check.due("wants a column beyond", x.cost(1, 0), 1 + 1 + 4);
        x.question(0, 0, 3, 1);
        x.test(2, 0, 1, 1);
        Check.due("adds up a column beyond", x.cost(2, 0), 1 + 1 + 4);
        x.question(0, 0, NONE, 1);
        x.test(3, 0, 1, 1);
        Check.due("wants nothing", x.cost(3, 0), 1 + 1);
    }

    private static void partHelpsWithin() {
        IndexDesk x = desk();
        x.part(0, 0, 2, 1, 10, 20);
        x.question(0, 15, NONE, 1);
        x.test(0, 0, 1, 1);
        Check.due("no test of its column", x.cost(0, 0), NONE);
        x.test(0, 1, 9, 20);
        Check.due("begins before", x.cost(0, 0), NONE);
        x.test(0, 1, 10, 21);
        Check.due("ends behind", x.cost(0, 0), NONE);
        x.test(0, 1, 10, 20);
        // 24 * 11 / 31 = 9, rounded up; 9 / 6 = 2, rounded up.
        Check.due("the same", x.cost(0, 0), 1 + 1 + 2);
        x.test(0, 1, 15, 15);
        Check.due("within", x.cost(0, 0), 1 + 1 + 2);
        x.question(0, 0, NONE, 1);
        x.test(1, 1, 10, 10);
        Check.due("uses none", x.cost(1, 0), 1 + 3 + 9);
        x.part(0, 1, NONE, 1, 10, 10);
        // Its own test first: 24 / 4 = 6; then the one that it uses: 6 / 4 = 2.
        Check.due("own column used too", x.cost(1, 1), 1 + 1 + 2);
        x.part(0, 0, NONE, 1, 40, 50);
        x.test(1, 1, 40, 50);
        Check.due("nothing stands in it", x.cost(1, 2), 1);
    }

    private static void sumsHelp() {
        IndexDesk x = desk();
        x.sums(0, 3, 2);
        x.question(0, 0, 2, 1);
        Check.due("6 * 4 groups", x.cost(0, 0), 1 + 6);
        x.test(0, 0, 1, 4);
        x.test(0, 1, 10, 10);
        Check.due("tests of its set", x.cost(0, 0), 1 + 6);
        x.test(0, 3, 0, 999);
        Check.due("a test beyond its set", x.cost(0, 0), NONE);
        x.question(0, 1, 2, 1);
        Check.due("wants something", x.cost(1, 0), NONE);
        x.question(0, 0, 1, 1);
        Check.due("adds up another", x.cost(2, 0), NONE);
        x.question(0, 0, NONE, 1);
        Check.due("adds up nothing", x.cost(3, 0), NONE);
        x.sums(0, 1, 1);
        Check.due("6 groups", x.cost(2, 1), 1 + 2);
        x.sums(0, 5, 1);
        Check.due("rows at most", x.cost(2, 2), 1 + 6);
    }

    private static void clusterCosts() {
        IndexDesk x = desk();
        x.order(0, 4, 1, 0, NONE, 0);
        x.question(0, 15, NONE, 1);
        x.test(0, 0, 1, 1);
        Check.due("uses nothing", x.cost(0, 0), NONE);
        x.test(0, 1, 10, 10);
        Check.due("6, then 1", x.cost(0, 0), 1 + 1);
        x.test(0, 1, 0, 10);
        Check.due("24 * 11 / 31 = 9", x.cost(0, 0), 1 + 5);
    }

    private static void costsWithoutRows() {
        IndexDesk x = new IndexDesk();
        x.table(0, 2, 2);
        x.order(0, 0, 0, NONE, NONE, 0);
        x.order(0, 1, 0, NONE, NONE, 2);
        x.part(0, 0, NONE, 0, 0, 999);
        x.sums(0, 1, 1);
        x.order(0, 4, 0, NONE, NONE, 0);
        x.question(0, 0, 1, 1);
        x.test(0, 0, 0, 0);
        Check.due("plain", x.cost(0, NONE), 0);
        for (int a = 0; a < 5; a++) {
            Check.due("aid " + a, x.cost(0, a), 1);
            Check.due("room " + a, x.look(a, 2), 0);
            x.build(a, true);
        }
        Check.due("plan", x.plan(0), NONE);
        Check.due("fetched", x.run(0, 2), 0);
        Check.due("foretold", x.run(0, 3), 0);
        x.test(0, 0, 0, 5);
        Check.due("range", x.cost(0, 0), 1);
    }

    private static void plansAndTies() {
        IndexDesk x = desk();
        Check.due("no question", x.plan(0), -2);
        Check.due("question -1", x.plan(-1), -2);
        Check.due("question 24", x.plan(24), -2);
        x.question(0, 0, NONE, 1);
        x.test(0, 2, 7, 7);
        x.order(0, 0, 2, NONE, NONE, 0);
        x.order(0, 0, 2, 0, NONE, 0);
        x.order(0, 4, 2, NONE, NONE, 0);
        x.order(0, 0, 0, NONE, NONE, 0);
        Check.due("nothing is built", x.plan(0), NONE);
        x.build(3, true);
        Check.due("one that does not help", x.plan(0), NONE);
        x.build(1, true);
        Check.due("one that does", x.plan(0), 1);
        x.build(0, true);
        Check.due("like ones: the lowest", x.plan(0), 0);
        x.build(2, true);
        Check.due("the least", x.plan(0), 2);
        Check.due("foretold", x.run(0, 3), 2);
        x.build(2, false);
        Check.due("without it", x.plan(0), 0);
        tieWithPlain();
    }

    private static void tieWithPlain() {
        IndexDesk x = new IndexDesk();
        x.table(0, 1, 2);
        for (int r = 0; r < 6; r++) {
            x.put(0, r, 0, 0, 0);
        }
        x.recount(0);
        x.order(0, 0, 0, NONE, NONE, 0);
        x.question(0, 0, NONE, 1);
        x.test(0, 0, 2, 2);
        x.build(0, true);
        Check.due("plain costs", x.cost(0, NONE), 3);
        Check.due("order costs", x.cost(0, 0), 3);
        Check.due("plain wins", x.plan(0), NONE);
    }

    private static void runOfPlainAndOrder() {
        IndexDesk x = desk();
        x.order(0, 0, 0, 1, NONE, 0);
        x.question(0, 15, NONE, 1);
        x.test(0, 0, 0, 0);
        x.test(0, 3, 0, 0);
        Check.due("plain fetched", x.run(0, 2), 12);
        x.put(0, 0, 0, 0, 0);
        Check.due("plain fetched of 25 rows", x.run(0, 2), 13);
        Check.due("plain foretold of 24", x.run(0, 3), 12);
        x.build(0, true);
        Check.due("plan", x.plan(0), 0);
        // Places 0, 6, 12, 18 and 24 match what is used (column 3 is not): 5 pages, 2 of the order.
        Check.due("order fetched", x.run(0, 2), 1 + 2 + 5);
        Check.due("order foretold", x.run(0, 3), 1 + 1 + 4);
        for (int i = 0; i < 5; i++) {
            x.strike(0, 1);
        }
        // Now places 0, 1, 7, 13 and 19 match: 0 and 1 lie on one page.
        Check.due("unlike pages", x.run(0, 2), 1 + 2 + 4);
        x.test(0, 1, 30, 999);
        Check.due("none is found: fetched", x.run(0, 2), 1);
        Check.due("none is found: foretold", x.run(0, 3), 1 + 1 + 1);
    }

    private static void runOfCoveringAndCluster() {
        IndexDesk x = desk();
        x.order(0, 1, 0, NONE, NONE, 6);
        x.order(0, 4, 0, NONE, NONE, 0);
        x.question(0, 6, NONE, 1);
        x.test(0, 0, 0, 0);
        x.put(0, 0, 0, 0, 0);
        x.build(0, true);
        Check.due("covering foretold", x.run(0, 3), 1 + 1);
        Check.due("covering fetched: 5 rows", x.run(0, 2), 1 + 2);
        x.question(0, 8, NONE, 1);
        x.test(1, 0, 0, 0);
        Check.due("not covered: 5 pages", x.run(1, 2), 1 + 2 + 5);
        x.build(1, true);
        Check.due("cluster plan", x.plan(1), 1);
        Check.due("cluster foretold", x.run(1, 3), 1 + 2);
        Check.due("cluster fetched: 5 rows", x.run(1, 2), 1 + 3);
    }

    private static void runOfPart() {
        IndexDesk x = desk();
        x.part(0, 0, NONE, 1, 10, 19);
        x.question(0, 15, NONE, 1);
        x.test(0, 1, 10, 10);
        x.test(0, 0, 1, 1);
        x.build(0, true);
        Check.due("part plan", x.plan(0), 0);
        // 24 * 10 / 31 = 8, 8 / 6 = 2; truly r % 4 = 1 and r % 6 = 1: places 1 and 13.
        Check.due("part foretold", x.run(0, 3), 1 + 1 + 2);
        Check.due("part fetched", x.run(0, 2), 1 + 1 + 2);
        x.put(0, 1, 15, 0, 0);
        Check.due("in the part, though no answer", x.run(0, 2), 1 + 1 + 3);
        Check.due("answers", x.run(0, 0), 2);
        x.put(0, 1, 20, 0, 0);
        Check.due("beyond the part", x.run(0, 2), 1 + 1 + 3);
    }

    private static void runOfSums() {
        IndexDesk x = desk();
        x.sums(0, 3, 2);
        x.question(0, 0, 2, 1);
        x.test(0, 0, 1, 1);
        x.build(0, true);
        // r % 6 and r % 4 have 12 pairs, though 6 * 4 are foretold; tests do not narrow them.
        Check.due("sums plan", x.plan(0), 0);
        Check.due("sums foretold", x.run(0, 3), 1 + 6);
        Check.due("sums fetched", x.run(0, 2), 1 + 3);
        Check.due("sum", x.run(0, 1), 1 + 7 + 13 + 19);
        x.put(0, 99, 99, 0, 0);
        Check.due("a group more", x.run(0, 2), 1 + 4);
        x.put(0, 99, 99, 1, 0);
        Check.due("no group more", x.run(0, 2), 1 + 4);
    }
}
