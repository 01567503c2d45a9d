/** Part 2 of "Terms": aids, what is foretold, room, keeping, costs, plans, each sentence at its boundaries. */
public final class TermsTwoTest {
    private static final int NONE = Desks.NONE;

    private TermsTwoTest() {
    }

    public static void main(String[] args) {
        aids12();
        orderByOneToThree();
        coveringFurther();
        partFromTo();
        sumsOneOrTwo();
        clusterInWhichRowsLie();
        foretoldByCounts();
        passingAlike();
        passingRange();
        passingNone();
        usesFromTheFirstOn();
        matchedOneBehindTheOther();
        roomOfOrderAndPart();
        roomOfCovering();
        roomOfSums();
        roomOfCluster();
        groupsRowsAtMost();
        keeping();
        costPlain();
        costOrder();
        costCovering();
        costPart();
        costSums();
        costCluster();
        setCosts();
        setRoom();
        builtIsASet();
        planTies();
        Check.finish();
    }

    // ---- the aids ----

    private static final String[] KINDS = {"order", "covering", "part", "sums", "cluster"};

    /** An aid of each kind, of table 0 with two columns. */
    private static int aid(IndexDesk x, int kind) {
        switch (kind) {
            case 2:
                return x.part(0, 0, NONE, 1, 0, 999);
            case 3:
                return x.sums(0, 1, 1);
            default:
                return Desks.by(x, 0, kind, 0, 2);
        }
    }

    private static void aids12() {
        Check.sentence("AIDS, 12 at most, each of a TABLE");
        for (int kind = 0; kind < 5; kind++) {
            IndexDesk x = Desks.counting(2, 2, 4);
            for (int a = 0; a < 11; a++) {
                Check.due("aid", aid(x, a % 5), a);
            }
            Check.due("no 12th yet", x.look(11, 0), NONE);
            Check.due("the 12th, " + KINDS[kind], aid(x, kind), 11);
            Check.due("its kind", x.look(11, 0), kind);
            for (int next = 0; next < 5; next++) {
                Check.due("the 13th, " + KINDS[next], aid(x, next), NONE);
            }
            Check.due("aids", x.count(2), 12);
            Check.due("no 13th", x.look(12, 0), NONE);
            Check.due("no bit of it", x.room(1 << 12), NONE);
        }
    }

    private static void orderByOneToThree() {
        Check.sentence("0 ORDER by one to three COLUMNS (all different), in turn.");
        for (int columns = 1; columns <= 4; columns++) {
            for (int a = -2; a <= 4; a++) {
                for (int b = -2; b <= 4; b++) {
                    for (int c = -2; c <= 4; c++) {
                        orderBy(columns, a, b, c);
                    }
                }
            }
        }
        IndexDesk x = Desks.counting(2, 2, 20);
        x.order(0, 0, 0, 1, NONE, 0);
        x.order(0, 0, 1, 0, NONE, 0);
        int q = Desks.ask(x, 0, 1, 3, 3);
        Check.due("column 0 before column 1", x.cost(q, 0), NONE);
        Check.due("column 1 before column 0", x.cost(q, 1), 3);
    }

    private static void orderBy(int columns, int a, int b, int c) {
        boolean isFirst = a >= 0 && a < columns;
        boolean isSecond = b == NONE || b >= 0 && b < columns && b != a;
        boolean isThird = c == NONE || c >= 0 && c < columns && c != a && c != b && b != NONE;
        int due = isFirst && isSecond && isThird ? 0 : NONE;
        for (int kind : new int[] {0, 4}) {
            IndexDesk x = new IndexDesk();
            x.table(0, columns, 2);
            String call = Desks.said("order", 0, kind, a, b, c) + " of " + columns;
            Check.due(call, x.order(0, kind, a, b, c, 0), due);
            Check.due("aids", x.count(2), due + 1);
        }
    }

    private static void coveringFurther() {
        Check.sentence("1 COVERING, an ORDER with further COLUMNS (bits; one at least that is none of these).");
        for (int columns = 1; columns <= 4; columns++) {
            for (int further = -17; further <= 33; further++) {
                int all = (1 << columns) - 1;
                boolean isThere = further >= 0 && further <= all;
                dueCovering(columns, further, 0, NONE, NONE, isThere && (further & ~1) != 0);
                dueCovering(columns, further, 0, 1, NONE, columns > 1 && isThere && (further & ~3) != 0);
                dueCovering(columns, further, 0, 1, 2, columns > 2 && isThere && (further & ~7) != 0);
            }
            dueCovering(columns, 1 << 31, 0, NONE, NONE, false);
            dueCovering(columns, Desks.HIGH, 0, NONE, NONE, false);
            dueCovering(columns, 2 | 1 << 30, 0, NONE, NONE, false);
        }
    }

    private static void dueCovering(int columns, int further, int a, int b, int c, boolean is) {
        IndexDesk x = new IndexDesk();
        x.table(0, columns, 2);
        String call = Desks.said("order", 0, 1, a, b, c, further) + " of " + columns;
        Check.due(call, x.order(0, 1, a, b, c, further), is ? 0 : NONE);
    }

    private static void partFromTo() {
        Check.sentence("2 PART, an ORDER of those ROWS alone whose value in a COLUMN is from a told one to another.");
        int[][] wrong = {{-1, 0}, {-1, -1}, {0, 1000}, {1000, 1000}, {1, 0}, {999, 0}, {Desks.LOW, Desks.HIGH}};
        IndexDesk x = Desks.counting(2, 2, 40);
        for (int[] w : wrong) {
            Check.due(Desks.said("part", w), x.part(0, 0, NONE, 1, w[0], w[1]), NONE);
        }
        Check.due("0 to 0", x.part(0, 0, NONE, 1, 0, 0), 0);
        Check.due("999 to 999", x.part(0, 0, NONE, 1, 999, 999), 1);
        Check.due("0 to 999", x.part(0, 0, NONE, 1, 0, 999), 2);
        Check.due("10 to 12", x.part(0, 0, NONE, 1, 10, 12), 3);
        int q = Desks.ask(x, 0, 1, 10, 12);
        x.build(3, true);
        // It uses nothing: those alone stand in it that have 10, 11 or 12, on pages 5 and 6.
        Check.due("both ends stand in it", x.run(q, 2), 1 + 1 + 2);
        x.put(0, 0, 9, 0, 0);
        x.put(0, 0, 13, 0, 0);
        Check.due("those beyond do not", x.run(q, 2), 1 + 1 + 2);
        x.put(0, 0, 12, 0, 0);
        Check.due("one more does", x.run(q, 2), 1 + 1 + 3);
    }

    private static void sumsOneOrTwo() {
        Check.sentence("3 SUMS, by a set of COLUMNS (bits, one or two), of a COLUMN.");
        for (int columns = 1; columns <= 4; columns++) {
            for (int bits = -17; bits <= 33; bits++) {
                for (int c = -2; c <= 4; c++) {
                    boolean isThere = bits > 0 && bits < 1 << columns && c >= 0 && c < columns;
                    boolean isFew = bits != 7 && bits != 11 && bits != 13 && bits != 14 && bits != 15;
                    dueSums(columns, bits, c, isThere && isFew);
                }
            }
            dueSums(columns, 1 << 31, 0, false);
            dueSums(columns, 1 | 1 << 31, 0, false);
            dueSums(columns, Desks.HIGH, 0, false);
        }
    }

    private static void dueSums(int columns, int bits, int c, boolean is) {
        IndexDesk x = new IndexDesk();
        x.table(0, columns, 2);
        Check.due(Desks.said("sums", 0, bits, c) + " of " + columns, x.sums(0, bits, c), is ? 0 : NONE);
    }

    private static void clusterInWhichRowsLie() {
        Check.sentence("4 CLUSTER, an ORDER in which the ROWS themselves lie.");
        IndexDesk x = Desks.counting(2, 2, 40);
        Check.due("a cluster", Desks.by(x, 0, 4, 0, 0), 0);
        int q = Desks.ask(x, 0, 0, 7, 10);
        x.build(0, true);
        Check.due("nothing else is fetched", x.run(q, 2), 1 + 2);
    }

    // ---- what passes, what is used, what is matched ----

    /** 20 rows by PAGE 2 whose column 0 has the values 10, 12 and 19, with an ORDER by it. */
    private static IndexDesk threeValues() {
        int[] values = {10, 12, 19};
        IndexDesk x = new IndexDesk();
        x.table(0, 1, 2);
        for (int r = 0; r < 20; r++) {
            x.put(0, values[r % 3], 0, 0, 0);
        }
        x.recount(0);
        Desks.by(x, 0, 0, 0, 0);
        x.question(0, 0, NONE, 1);
        return x;
    }

    private static void duePassing(IndexDesk x, int from, int to, int matched) {
        x.test(0, 0, from, to);
        int pages = x.counts(0, 0, 1);
        int due = 1 + Desks.up(matched, 4) + Math.min(matched, pages);
        Check.due("cost by " + from + " to " + to, x.cost(0, 0), due);
    }

    private static void foretoldByCounts() {
        Check.sentence("FORETOLD, by COUNTS, all whole numbers:");
        IndexDesk x = threeValues();
        x.part(0, 0, NONE, 0, 10, 12);
        x.sums(0, 1, 0);
        Desks.by(x, 0, 4, 0, 0);
        int q = x.question(0, 0, 0, 1);
        x.test(q, 0, 10, 12);
        // PLAIN; ORDER and PART of 6 rows; SUMS of 3 groups; CLUSTER of 6 rows.
        int[] costs = {10, 1 + 2 + 6, 1 + 1 + 2, 1 + 1, 1 + 3};
        for (int round = 0; round < 2; round++) {
            for (int a = NONE; a < 4; a++) {
                Check.due("cost with " + a, x.cost(q, a), costs[a + 1]);
            }
            // Rows that come and go are not looked at.
            x.strike(0, 0);
            for (int r = 0; r < 30; r++) {
                x.put(0, 500 + r, 0, 0, 0);
            }
        }
    }

    private static void passingAlike() {
        Check.sentence("what passes a TEST of m ROWS: ALIKE: m / UNLIKE, rounded up");
        IndexDesk x = threeValues();
        duePassing(x, 10, 10, 7);
        duePassing(x, 11, 11, 7);
        duePassing(x, 19, 19, 7);
        // 21 rows have nothing to round.
        x.put(0, 10, 0, 0, 0);
        x.recount(0);
        duePassing(x, 12, 12, 7);
        x.put(0, 10, 0, 0, 0);
        x.recount(0);
        duePassing(x, 12, 12, 8);
        IndexDesk one = Desks.of(2, new int[] {5}, new int[] {5}, new int[] {5});
        Desks.by(one, 0, 0, 0, 0);
        one.question(0, 0, NONE, 1);
        duePassing(one, 5, 5, 3);
        IndexDesk all = Desks.counting(1, 2, 60);
        Desks.by(all, 0, 0, 0, 0);
        all.question(0, 0, NONE, 1);
        duePassing(all, 0, 0, 1);
        duePassing(all, 59, 59, 1);
    }

    private static void passingRange() {
        Check.sentence("else m times (how many values from LEAST to GREATEST are from its first to its last)"
            + " / (GREATEST - LEAST + 1), rounded up");
        IndexDesk x = threeValues();
        int[][] due = {{0, 10, 2}, {9, 10, 2}, {10, 11, 4}, {0, 14, 10}, {13, 14, 4}, {18, 19, 4}, {19, 20, 2},
            {19, 999, 2}, {10, 18, 18}, {10, 19, 20}, {0, 999, 20}, {9, 20, 20}};
        for (int[] d : due) {
            duePassing(x, d[0], d[1], d[2]);
        }
        x.put(0, 10, 0, 0, 0);
        x.recount(0);
        // 21 rows: 2.1, 4.2 and 18.9, rounded up.
        duePassing(x, 0, 10, 3);
        duePassing(x, 10, 11, 5);
        duePassing(x, 10, 18, 19);
        IndexDesk ends = Desks.of(2, new int[] {0}, new int[] {999}, new int[] {0}, new int[] {0});
        Desks.by(ends, 0, 0, 0, 0);
        ends.question(0, 0, NONE, 1);
        // 4 * 250 / 1000 is 1; a value more is above it.
        duePassing(ends, 0, 249, 1);
        duePassing(ends, 0, 250, 2);
        duePassing(ends, 0, 999, 4);
        duePassing(ends, 998, 999, 1);
        IndexDesk one = Desks.of(2, new int[] {5}, new int[] {5}, new int[] {5});
        Desks.by(one, 0, 0, 0, 0);
        one.question(0, 0, NONE, 1);
        duePassing(one, 4, 5, 3);
        duePassing(one, 5, 6, 3);
    }

    private static void passingNone() {
        Check.sentence("0 if m is 0 or none is (ALIKE one beyond LEAST to GREATEST, too).");
        IndexDesk x = threeValues();
        int[][] beyond = {{9, 9}, {20, 20}, {0, 0}, {999, 999}, {0, 9}, {8, 9}, {20, 21}, {20, 999}};
        for (int[] b : beyond) {
            duePassing(x, b[0], b[1], 0);
        }
        IndexDesk empty = new IndexDesk();
        empty.table(0, 1, 2);
        Desks.by(empty, 0, 0, 0, 0);
        empty.question(0, 0, NONE, 1);
        // LEAST and GREATEST are 0 without rows, and still nothing passes.
        duePassing(empty, 0, 0, 0);
        duePassing(empty, 0, 1, 0);
        duePassing(empty, 0, 999, 0);
        duePassing(empty, 7, 7, 0);
        empty.put(0, 7, 0, 0, 0);
        duePassing(empty, 7, 7, 0);
        empty.recount(0);
        duePassing(empty, 7, 7, 1);
        IndexDesk two = Desks.counting(2, 2, 20);
        two.order(0, 0, 0, 1, NONE, 0);
        int q = Desks.ask(two, 0, 0, 20, 20);
        two.test(q, 1, 0, 999);
        Check.due("nothing of nothing", two.cost(q, 0), 1);
    }

    private static void usesFromTheFirstOn() {
        Check.sentence("An ORDER (1, 2, 4 too) USES its COLUMNS from the first on: while they have ALIKE TESTS, these;"
            + " and the next one, if it has a TEST that is not ALIKE.");
        // N none, A ALIKE, R a range that is not; then what is left of 60 rows by what is used.
        String[][] due = {
            {"NNN", ""}, {"NNA", ""}, {"NNR", ""}, {"NAN", ""}, {"NAA", ""}, {"NAR", ""}, {"NRN", ""},
            {"NRA", ""}, {"NRR", ""},
            {"RNN", "R"}, {"RNA", "R"}, {"RNR", "R"}, {"RAN", "R"}, {"RAA", "R"}, {"RAR", "R"}, {"RRN", "R"},
            {"RRA", "R"}, {"RRR", "R"},
            {"ANN", "A"}, {"ANA", "A"}, {"ANR", "A"}, {"ARN", "AR"}, {"ARA", "AR"}, {"ARR", "AR"},
            {"AAN", "AA"}, {"AAA", "AAA"}, {"AAR", "AAR"},
        };
        for (String[] d : due) {
            dueUses(d[0], d[1]);
        }
    }

    /** Column 0 has 2 values in turn, column 1 has 3 of 0 to 4, column 2 has 5. */
    private static void dueUses(String tests, String used) {
        IndexDesk x = new IndexDesk();
        x.table(0, 4, 2);
        for (int r = 0; r < 60; r++) {
            x.put(0, 5 * (r % 2), 2 * (r % 3), r % 5, r % 2);
        }
        x.recount(0);
        for (int kind : new int[] {0, 1, 4}) {
            x.order(0, kind, 0, 1, 2, 8);
        }
        x.part(0, 0, 1, 3, 0, 1);
        int q = x.question(0, 15, NONE, 1);
        for (int c = 0; c < 3; c++) {
            if (tests.charAt(c) != 'N') {
                x.test(q, c, 0, tests.charAt(c) == 'A' ? 0 : 1);
            }
        }
        int matched = matchedBy(used);
        int pages = Math.min(matched, 30);
        boolean isHelped = !used.isEmpty();
        Check.due("order: " + tests, x.cost(q, 0), isHelped ? 1 + Desks.up(matched, 4) + pages : NONE);
        Check.due("covering: " + tests, x.cost(q, 1), isHelped ? 1 + Desks.up(matched, 4) : NONE);
        Check.due("cluster: " + tests, x.cost(q, 2), isHelped ? 1 + Desks.up(matched, 2) : NONE);
        x.test(q, 3, 0, 1);
        int inPart = matchedBy(used.length() > 2 ? used.substring(0, 2) : used);
        Check.due("part: " + tests, x.cost(q, 3), 1 + Desks.up(inPart, 4) + Math.min(inPart, 30));
    }

    private static int matchedBy(String used) {
        switch (used) {
            case "":
                return 60;
            case "R":
                return 20; // 60 * 2 / 6
            case "A":
                return 30; // 60 / 2
            case "AR":
                return 12; // 30 * 2 / 5
            case "AA":
                return 10; // 30 / 3
            case "AAA":
                return 2; // 10 / 5
            default:
                return 4; // AAR: 10 * 2 / 5
        }
    }

    private static void matchedOneBehindTheOther() {
        Check.sentence("MATCHED: ROWS, passed through the TESTS that it USES, one behind the other;"
            + " of a PART first through its own test.");
        IndexDesk x = new IndexDesk();
        x.table(0, 2, 2);
        // Column 0 has 9 values, column 1 has 10, from 0 to 9.
        for (int r = 0; r < 10; r++) {
            x.put(0, r % 9, r, 0, 0);
        }
        x.recount(0);
        int order = x.order(0, 0, 0, 1, NONE, 0);
        int q = Desks.ask(x, 0, 0, 4, 4);
        x.test(q, 1, 0, 8);
        // 10 / 9 is 2, rounded up, and 2 * 9 / 10 is 2; rounded once at the end it would be 1.
        Check.due("rounded behind each test", x.cost(q, order), 1 + 1 + 2);
        int part = x.part(0, 1, NONE, 0, 4, 4);
        // Its own first: 2, then 2 * 9 / 10; the other way it would be 10 * 9 / 10, then 9 / 9.
        Check.due("its own test first", x.cost(q, part), 1 + 1 + 2);
        int wide = x.part(0, 1, NONE, 0, 0, 8);
        Check.due("its own test, not the question's", x.cost(q, wide), 1 + 3 + 5);
        partByItsOwnColumn();
    }

    /** What is USED comes behind the PART's own test even if both are of one column. */
    private static void partByItsOwnColumn() {
        IndexDesk x = Desks.of(2, new int[] {0}, new int[] {9}, new int[] {9}, new int[] {9}, new int[] {9}, new int[] {9},
            new int[] {9}, new int[] {9}, new int[] {9}, new int[] {9});
        int nine = x.part(0, 0, NONE, 0, 9, 9);
        int low = x.part(0, 0, NONE, 0, 0, 4);
        int q = Desks.ask(x, 0, 0, 9, 9);
        Check.due("10 / 2 is 5, and 5 / 2 is 3", x.cost(q, nine), 1 + 1 + 3);
        Check.due("9 does not lie within 0 to 4", x.cost(q, low), NONE);
        x.test(q, 0, 0, 4);
        Check.due("10 * 5 / 10 is 5, and 5 * 5 / 10 is 3", x.cost(q, low), 1 + 1 + 3);
        x.test(q, 0, 4, 4);
        Check.due("10 * 5 / 10 is 5, and 5 / 2 is 3", x.cost(q, low), 1 + 1 + 3);
    }

    // ---- room and keeping ----

    private static void roomOfOrderAndPart() {
        Check.sentence("ROOM, in pages: of ORDER and PART (PART: ROWS passed through its own test for ROWS): ROWS / (2 PAGE), rounded up");
        for (int page = 2; page <= 8; page++) {
            for (int rows : new int[] {0, 1, 2 * page - 1, 2 * page, 2 * page + 1, 4 * page, 60}) {
                IndexDesk x = new IndexDesk();
                Desks.count(x, 0, 1, page, rows);
                Desks.by(x, 0, 0, 0, 0);
                x.part(0, 0, NONE, 0, 0, 999);
                int due = rows / (2 * page) + (rows % (2 * page) == 0 ? 0 : 1);
                Check.due("order of " + rows + " by " + page, x.look(0, 2), due);
                Check.due("part of all " + rows + " by " + page, x.look(1, 2), due);
            }
        }
        IndexDesk x = Desks.counting(2, 2, 40);
        int[][] parts = {{0, 3, 1}, {0, 4, 2}, {0, 0, 1}, {39, 39, 1}, {40, 40, 0}, {40, 999, 0}, {36, 999, 1}, {35, 999, 2}};
        for (int i = 0; i < parts.length; i++) {
            x.part(0, 0, NONE, 1, parts[i][0], parts[i][1]);
            Check.due(Desks.said("part", parts[i][0], parts[i][1]), x.look(i, 2), parts[i][2]);
        }
        IndexDesk few = Desks.of(2, new int[] {0}, new int[] {9}, new int[] {9}, new int[] {9}, new int[] {9}, new int[] {9},
            new int[] {9}, new int[] {9}, new int[] {9}, new int[] {9});
        few.part(0, 0, NONE, 0, 3, 3);
        Check.due("ALIKE: 10 / 2 rows", few.look(0, 2), 2);
        few.part(0, 0, NONE, 0, 3, 4);
        Check.due("not ALIKE: 10 * 2 / 10 rows", few.look(1, 2), 1);
    }

    private static void roomOfCovering() {
        Check.sentence("of COVERING: ROWS times (1 and how many further COLUMNS, of those bits that are none of its own)"
            + " / (2 PAGE), rounded up");
        for (int page = 2; page <= 8; page++) {
            for (int rows : new int[] {0, 1, page / 2, page, page + 1, 2 * page, 2 * page + 1, 60}) {
                dueCoveringRoom(page, rows);
            }
        }
    }

    private static void dueCoveringRoom(int page, int rows) {
        IndexDesk x = Desks.counting(4, page, rows);
        x.order(0, 1, 0, NONE, NONE, 2);
        x.order(0, 1, 0, NONE, NONE, 6);
        x.order(0, 1, 0, NONE, NONE, 14);
        x.order(0, 1, 0, NONE, NONE, 15);
        x.order(0, 1, 0, 1, 2, 15);
        x.order(0, 1, 3, 2, NONE, 13);
        int[] times = {2, 3, 4, 4, 2, 2};
        for (int a = 0; a < times.length; a++) {
            String call = "covering " + a + " of " + rows + " by " + page;
            Check.due(call, x.look(a, 2), Desks.up(rows * times[a], 2 * page));
        }
    }

    private static void roomOfSums() {
        Check.sentence("of SUMS: GROUPS / (2 PAGE), rounded up");
        for (int page = 2; page <= 8; page++) {
            for (int values : new int[] {1, 2 * page - 1, 2 * page, 2 * page + 1, 4 * page, 60}) {
                IndexDesk x = new IndexDesk();
                x.table(0, 1, page);
                for (int r = 0; r < 60; r++) {
                    x.put(0, r % values, 0, 0, 0);
                }
                x.sums(0, 1, 0);
                int q = x.question(0, 0, 0, 1);
                Check.due("none is counted yet", x.look(0, 2), 0);
                Check.due("nor costs more than 1", x.cost(q, 0), 1);
                x.recount(0);
                Check.due("groups " + values + " by " + page, x.look(0, 2), Desks.up(values, 2 * page));
                Check.due("the cost of " + values + " by " + page, x.cost(q, 0), 1 + Desks.up(values, 2 * page));
            }
        }
    }

    private static void roomOfCluster() {
        Check.sentence("of CLUSTER none.");
        for (int rows : new int[] {0, 1, 60}) {
            IndexDesk x = Desks.counting(3, 2, rows);
            x.order(0, 4, 0, 1, 2, 15);
            Check.due("cluster of " + rows, x.look(0, 2), 0);
            Check.due("a set of it", x.room(1), 0);
        }
    }

    private static void groupsRowsAtMost() {
        Check.sentence("GROUPS: UNLIKE of each of its COLUMNS multiplied, but ROWS at most.");
        // 8 rows: 2, 4 and 5 unlike values; 9 rows at the end.
        IndexDesk x = new IndexDesk();
        x.table(0, 3, 2);
        for (int r = 0; r < 8; r++) {
            x.put(0, r % 2, r % 4, r % 5, 0);
        }
        x.recount(0);
        x.sums(0, 3, 0);
        x.sums(0, 5, 0);
        x.sums(0, 6, 0);
        x.sums(0, 4, 0);
        Check.due("2 * 4 are all 8", x.look(0, 2), 2);
        Check.due("2 * 5 but 8", x.look(1, 2), 2);
        Check.due("4 * 5 but 8", x.look(2, 2), 2);
        Check.due("5", x.look(3, 2), 2);
        x.put(0, 0, 0, 0, 0);
        x.recount(0);
        Check.due("2 * 4 of 9", x.look(0, 2), 2);
        Check.due("2 * 5 but 9", x.look(1, 2), 3);
        Check.due("4 * 5 but 9", x.look(2, 2), 3);
        int q = x.question(0, 0, 0, 1);
        Check.due("8 groups", x.cost(q, 0), 1 + 2);
        Check.due("9 groups", x.cost(q, 1), 1 + 3);
    }

    private static void keeping() {
        Check.sentence("KEEPING one CHANGE costs: 2; COVERING 3; PART 1; SUMS 2; CLUSTER 4 pages.");
        int[] pages = {2, 3, 1, 2, 4};
        for (int kind = 0; kind < 5; kind++) {
            IndexDesk x = Desks.counting(2, 2, 4);
            aid(x, kind);
            for (int n : new int[] {0, 1, 1000}) {
                x.changes(0, n);
                Check.due(KINDS[kind] + " by " + n, x.total(1), pages[kind] * n);
            }
        }
    }

    // ---- costs ----

    private static void costPlain() {
        Check.sentence("THE COST of a QUESTION with an AID of its TABLE (if that can HELP it): PLAIN (without any): PAGES.");
        IndexDesk x = new IndexDesk();
        x.table(0, 1, 3);
        int q = x.question(0, 0, NONE, 1);
        Check.due("no rows", x.cost(q, NONE), 0);
        for (int rows = 1; rows <= 7; rows++) {
            x.put(0, rows, 0, 0, 0);
            Check.due("by the counts before", x.cost(q, NONE), Desks.up(rows - 1, 3));
            x.recount(0);
            Check.due(rows + " rows", x.cost(q, NONE), Desks.up(rows, 3));
        }
        x.test(q, 0, 999, 999);
        Check.due("tests spare nothing", x.cost(q, NONE), 3);
        x.table(1, 1, 3);
        Desks.by(x, 1, 0, 0, 0);
        Check.due("an aid of another table", x.cost(q, 0), NONE);
        Desks.by(x, 0, 0, 0, 0);
        Check.due("one of its own", x.cost(q, 1), 1);
    }

    private static void costOrder() {
        Check.sentence("ORDER: it HELPS if it USES one COLUMN at least; 1 and MATCHED / (2 PAGE), rounded up,"
            + " and (each ROW being fetched) MATCHED, or PAGES if these are fewer.");
        IndexDesk x = Desks.counting(2, 2, 20);
        x.order(0, 0, 0, 1, NONE, 0);
        int q = x.question(0, 0, NONE, 1);
        Check.due("without a test", x.cost(q, 0), NONE);
        x.test(q, 1, 0, 0);
        Check.due("a test of the second alone", x.cost(q, 0), NONE);
        // MATCHED, to 20 rows on 10 pages.
        int[][] due = {{1, 1 + 1 + 1}, {4, 1 + 1 + 4}, {5, 1 + 2 + 5}, {8, 1 + 2 + 8}, {9, 1 + 3 + 9}, {10, 1 + 3 + 10},
            {11, 1 + 3 + 10}, {12, 1 + 3 + 10}, {13, 1 + 4 + 10}, {20, 1 + 5 + 10}};
        for (int[] d : due) {
            x.test(q, 0, 0, d[0] - 1);
            if (d[0] == 1) {
                x.test(q, 1, 0, 19);
            }
            Check.due("matched " + d[0], x.cost(q, 0), d[1]);
        }
        x.test(q, 0, 20, 999);
        Check.due("matched 0", x.cost(q, 0), 1);
        IndexDesk wide = Desks.counting(1, 8, 60);
        Desks.by(wide, 0, 0, 0, 0);
        int w = Desks.ask(wide, 0, 0, 0, 15);
        Check.due("16 rows by 16 a page", wide.cost(w, 0), 1 + 1 + 8);
        wide.test(w, 0, 0, 16);
        Check.due("17 rows by 16 a page", wide.cost(w, 0), 1 + 2 + 8);
    }

    private static void costCovering() {
        Check.sentence("COVERING: likewise, but nothing is fetched if all COLUMNS that the QUESTION WANTS, TESTS and ADDS UP"
            + " are its own or further ones.");
        for (int wants = 0; wants < 16; wants++) {
            for (int adds = NONE; adds < 4; adds++) {
                for (int also = NONE; also < 4; also++) {
                    dueCoveringCost(wants, adds, also);
                }
            }
        }
        IndexDesk x = Desks.counting(4, 2, 20);
        x.order(0, 1, 0, NONE, NONE, 2);
        int q = x.question(0, 0, 1, 1);
        x.test(q, 1, 3, 3);
        Check.due("it helps by what it uses alone", x.cost(q, 0), NONE);
    }

    /** COVERING by 0 with 1 and 3 further: only what touches column 2 is fetched. */
    private static void dueCoveringCost(int wants, int adds, int also) {
        IndexDesk x = Desks.counting(4, 2, 20);
        x.order(0, 1, 0, NONE, NONE, 11);
        int q = x.question(0, wants, adds, 1);
        if (also != NONE) {
            x.test(q, also, 0, 999);
        }
        x.test(q, 0, 0, 5);
        boolean isFetched = (wants & 4) != 0 || adds == 2 || also == 2;
        String call = "wants " + wants + ", adds " + adds + ", tests " + also;
        Check.due(call, x.cost(q, 0), 1 + 2 + (isFetched ? 6 : 0));
    }

    private static void costPart() {
        Check.sentence("PART: it HELPS if the QUESTION has a TEST of the PART's COLUMN that lies within;"
            + " as ORDER (it need not USE any).");
        IndexDesk x = Desks.counting(2, 2, 20);
        x.part(0, 0, NONE, 1, 5, 8);
        int q = Desks.ask(x, 0, 0, 6, 6);
        Check.due("no test of its column, though one is used", x.cost(q, 0), NONE);
        int[][] within = {{5, 8}, {5, 5}, {8, 8}, {6, 7}, {5, 7}, {6, 8}};
        for (int[] w : within) {
            x.test(q, 1, w[0], w[1]);
            // 20 * 4 / 20 = 4, then 4 / 20.
            Check.due(Desks.said("within", w), x.cost(q, 0), 1 + 1 + 1);
        }
        int[][] beyond = {{4, 8}, {5, 9}, {4, 9}, {4, 4}, {9, 9}, {0, 4}, {9, 999}, {0, 5}, {8, 9}, {0, 999}};
        for (int[] b : beyond) {
            x.test(q, 1, b[0], b[1]);
            Check.due(Desks.said("beyond", b), x.cost(q, 0), NONE);
        }
        int plain = Desks.ask(x, 0, 1, 7, 7);
        Check.due("it uses none: 4 rows", x.cost(plain, 0), 1 + 1 + 4);
        x.part(0, 0, NONE, 1, 5, 16);
        Check.due("12 rows, but 10 pages", x.cost(plain, 1), 1 + 3 + 10);
        x.part(0, 0, NONE, 1, 7, 7);
        Check.due("a part of one value", x.cost(plain, 2), 1 + 1 + 1);
        x.part(0, 0, NONE, 1, 20, 999);
        x.test(plain, 1, 20, 999);
        Check.due("a part of none", x.cost(plain, 3), 1);
    }

    private static void costSums() {
        Check.sentence("SUMS: it HELPS if the QUESTION WANTS nothing, ADDS UP its COLUMN, and TESTS but COLUMNS of its set:"
            + " 1 and GROUPS / (2 PAGE), rounded up.");
        for (int wants = 0; wants < 16; wants++) {
            for (int adds = NONE; adds < 4; adds++) {
                for (int tests = 0; tests < 16; tests++) {
                    boolean helps = wants == 0 && adds == 3 && (tests == 0 || tests == 1 || tests == 4 || tests == 5);
                    dueSumsCost(wants, adds, tests, helps);
                }
            }
        }
        for (int values : new int[] {1, 4, 5, 8, 9}) {
            IndexDesk x = new IndexDesk();
            x.table(0, 1, 2);
            for (int r = 0; r < 10; r++) {
                x.put(0, r % values, 0, 0, 0);
            }
            x.sums(0, 1, 0);
            int q = x.question(0, 0, 0, 1);
            Check.due("no groups", x.cost(q, 0), 1);
            x.recount(0);
            Check.due("groups " + values, x.cost(q, 0), 1 + Desks.up(values, 4));
        }
    }

    /** SUMS by 0 and 2 of 3: 8 groups, by 4 on a page. */
    private static void dueSumsCost(int wants, int adds, int tests, boolean helps) {
        IndexDesk x = new IndexDesk();
        x.table(0, 4, 2);
        for (int r = 0; r < 8; r++) {
            x.put(0, r % 2, r, r % 4, r);
        }
        x.recount(0);
        x.sums(0, 5, 3);
        int q = x.question(0, wants, adds, 1);
        for (int c = 0; c < 4; c++) {
            if ((tests & 1 << c) != 0) {
                x.test(q, c, 1, 1 + c);
            }
        }
        String call = "wants " + wants + ", adds " + adds + ", tests " + tests;
        Check.due(call, x.cost(q, 0), helps ? 1 + 2 : NONE);
    }

    private static void costCluster() {
        Check.sentence("CLUSTER: it HELPS if it USES one at least: 1 and MATCHED / PAGE, rounded up.");
        for (int page = 2; page <= 8; page++) {
            IndexDesk x = Desks.counting(2, page, 60);
            x.order(0, 4, 0, 1, NONE, 0);
            int q = Desks.ask(x, 0, 1, 0, 0);
            Check.due("the second alone", x.cost(q, 0), NONE);
            x.test(q, 1, 0, 999);
            for (int matched : new int[] {page - 1, page, page + 1, 2 * page, 60}) {
                x.test(q, 0, 0, matched - 1);
                Check.due("matched " + matched + " by " + page, x.cost(q, 0), 1 + Desks.up(matched, page));
            }
            x.test(q, 0, 60, 999);
            Check.due("matched 0", x.cost(q, 0), 1);
        }
    }

    // ---- sets and plans ----

    private static void setCosts() {
        Check.sentence("A SET of AIDS (at most one CLUSTER a TABLE) costs: each QUESTION's WEIGHT times its least COST,"
            + " PLAIN or with one of the SET, and for each AID its KEEPING times its TABLE's CHANGES.");
        IndexDesk x = new IndexDesk();
        for (int t = 0; t < 4; t++) {
            Desks.count(x, t, 1, 2, 20);
            Desks.by(x, t, 4, 0, 0);
            Desks.by(x, t, 4, 0, 0);
        }
        Check.due("one of each table", x.total(1 | 4 | 16 | 64), 0);
        Check.due("the other of each table", x.total(2 | 8 | 32 | 128), 0);
        for (int t = 0; t < 4; t++) {
            Check.due("two of table " + t, x.total(3 << 2 * t), NONE);
            Check.due("two of table " + t + " among others", x.total(85 | 3 << 2 * t), NONE);
        }
        Desks.by(x, 0, 0, 0, 0);
        int q = x.question(0, 1, NONE, 7);
        Check.due("no aid helps", x.total(256), 70);
        x.test(q, 0, 0, 999);
        // The order costs 1 + 5 + 10, the cluster 1 + 10; PLAIN costs 10.
        Check.due("an aid that costs more than PLAIN", x.total(256), 70);
        Check.due("and the cluster", x.total(257), 70);
        x.test(q, 0, 3, 3);
        Check.due("the order", x.total(256), 21);
        Check.due("the cluster", x.total(1), 14);
        Check.due("the least of both", x.total(257), 14);
        x.changes(0, 5);
        x.changes(1, 7);
        Check.due("an empty set keeps nothing", x.total(0), 70);
        Check.due("each is kept", x.total(257), 14 + 10 + 20);
        Check.due("of another table", x.total(4), 70 + 28);
        IndexDesk none = new IndexDesk();
        Check.due("the empty set of nothing", none.total(0), 0);
        Check.due("a set of nothing", none.total(1), NONE);
    }

    private static void setRoom() {
        Check.sentence("Its ROOM is that of all of them.");
        IndexDesk x = Desks.counting(4, 2, 60);
        for (int a = 0; a < 12; a++) {
            x.order(0, 1, 0, NONE, NONE, 14);
        }
        Check.due("none", x.room(0), 0);
        for (int a = 0; a < 12; a++) {
            Check.due("one", x.room(1 << a), 60);
        }
        Check.due("all but the last", x.room(2047), 660);
        Check.due("all twelve", x.room(4095), 720);
        Check.due("rounded for each by itself", roomOfTwoSmallOnes(), 2);
    }

    private static int roomOfTwoSmallOnes() {
        IndexDesk x = Desks.counting(1, 8, 1);
        Desks.by(x, 0, 0, 0, 0);
        Desks.by(x, 0, 0, 0, 0);
        return x.room(3);
    }

    private static void builtIsASet() {
        Check.sentence("BUILT AIDS are a SET.");
        IndexDesk x = Desks.counting(2, 2, 20);
        Desks.count(x, 1, 1, 2, 20);
        Desks.by(x, 0, 4, 0, 0);
        Desks.by(x, 0, 4, 1, 0);
        Desks.by(x, 1, 4, 0, 0);
        Desks.by(x, 0, 0, 0, 0);
        Check.due("none", x.built(), 0);
        Check.due("one cluster", x.build(1, true), true);
        Check.due("a second of its table", x.build(0, true), false);
        Check.due("one of another table", x.build(2, true), true);
        Check.due("an order beside it", x.build(3, true), true);
        Check.due("built", x.built(), 14);
        Check.due("it has a cost", x.total(x.built()), 0);
        Check.due("it has a room", x.room(x.built()), 5);
        anyTwoOfTwelveClusters();
    }

    private static void anyTwoOfTwelveClusters() {
        IndexDesk x = Desks.counting(2, 2, 20);
        for (int a = 0; a < 12; a++) {
            Desks.by(x, 0, 4, a % 2, 0);
        }
        for (int first = 0; first < 12; first++) {
            Check.due("build " + first, x.build(first, true), true);
            for (int second = 0; second < 12; second++) {
                Check.due(first + " is built, " + second + " is not", x.build(second, true), false);
            }
            Check.due("built", x.built(), 1 << first);
            x.build(first, false);
        }
        for (int first = 0; first < 12; first++) {
            Check.due("one", x.total(1 << first), 0);
            for (int second = 0; second < first; second++) {
                Check.due("the cost of " + first + " and " + second, x.total(1 << first | 1 << second), NONE);
                Check.due("the room of " + first + " and " + second, x.room(1 << first | 1 << second), NONE);
            }
        }
    }

    private static void planTies() {
        Check.sentence("THE PLAN of a QUESTION: of PLAIN and BUILT ones that HELP, that of the least COST,"
            + " of like ones PLAIN, then the lowest number.");
        IndexDesk x = Desks.counting(1, 2, 8);
        for (int a = 0; a < 12; a++) {
            Desks.by(x, 0, 0, 0, 0);
        }
        int q = Desks.ask(x, 0, 0, 2, 2);
        Check.due("none is built", x.plan(q), NONE);
        for (int a = 11; a >= 0; a--) {
            x.build(a, true);
            Check.due("the lowest of like ones", x.plan(q), a);
        }
        // 8 rows are 4 pages, the order costs 3; two rows of a range cost 4, like PLAIN; three cost 5.
        x.test(q, 0, 2, 3);
        Check.due("like PLAIN", x.cost(q, 0), x.cost(q, NONE));
        Check.due("PLAIN of like ones", x.plan(q), NONE);
        x.test(q, 0, 2, 4);
        Check.due("PLAIN is less", x.plan(q), NONE);
        x.test(q, 0, 2, 2);
        x.strike(0, 0);
        x.strike(0, 0);
        Check.due("by counts still", x.plan(q), 0);
        x.recount(0);
        Check.due("3 pages, like the order", x.plan(q), NONE);
        leastWhateverItsNumber();
    }

    private static void leastWhateverItsNumber() {
        IndexDesk x = Desks.counting(2, 2, 20);
        x.part(0, 0, NONE, 1, 0, 19);
        Desks.by(x, 0, 0, 0, 0);
        Desks.by(x, 0, 4, 0, 0);
        int q = Desks.ask(x, 0, 0, 5, 5);
        x.build(0, true);
        Check.due("built, but it does not help", x.plan(q), NONE);
        x.build(1, true);
        Check.due("3 pages", x.plan(q), 1);
        x.build(2, true);
        Check.due("2 pages", x.plan(q), 2);
        x.build(2, false);
        Check.due("no longer built", x.plan(q), 1);
    }
}
