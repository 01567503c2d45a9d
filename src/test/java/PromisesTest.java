/** "Promise 1" to "Promise 23", and what stands before them: each reason for which a call is refused, and what stands just beside it. */
public final class PromisesTest {
    private static final int NONE = Desks.NONE;
    private static final int LOW = Desks.LOW;
    private static final int HIGH = Desks.HIGH;
    /** Numbers that are no table, question or aid whatever there is; some would wrap around to 0 or 1. */
    private static final int[] NO_NUMBERS = {LOW, LOW + 1, -32, -2, 32, 33, 64, 256, 65536, HIGH};

    private PromisesTest() {
    }

    public static void main(String[] args) {
        none();
        memoryOfItsOwn();
        aNewObject();
        table();
        put();
        strike();
        recount();
        counts();
        changes();
        question();
        test();
        order();
        part();
        sums();
        build();
        look();
        cost();
        plan();
        run();
        total();
        room();
        built();
        choose();
        greedy();
        count();
        Check.finish();
    }

    /** Table 1 (two columns, PAGE 2) with 20 rows, and table 2 (one column, PAGE 3) with none. */
    private static IndexDesk desk() {
        IndexDesk x = new IndexDesk();
        Desks.count(x, 1, 2, 2, 20);
        x.table(2, 1, 3);
        return x;
    }

    private static void aNewObject() {
        Check.sentence("No TABLES, QUESTIONS, AIDS.");
        IndexDesk x = new IndexDesk();
        for (int what = 0; what < 4; what++) {
            Check.due(Desks.said("count", what), x.count(what), 0);
        }
        for (int n = -2; n < 26; n++) {
            Check.due("no table", x.recount(n), NONE);
            Check.due("no question", x.plan(n), -2);
            Check.due("no aid", x.look(n, 0), NONE);
        }
        Check.due("none built", x.built(), 0);
        Check.due("the empty set's cost", x.total(0), 0);
        Check.due("the empty set's room", x.room(0), 0);
    }

    private static void none() {
        Check.sentence("`NONE = -1`: There is none.");
        Check.due("NONE", IndexDesk.NONE, -1);
    }

    private static void memoryOfItsOwn() {
        Check.sentence("All memory is the adviser's own.");
        IndexDesk x = saving();
        IndexDesk other = new IndexDesk();
        Check.due("another has none of its tables", other.count(0), 0);
        Desks.count(other, 1, 2, 2, 4);
        other.changes(1, 9);
        Desks.by(other, 1, 4, 1, 0);
        other.build(0, true);
        Desks.ask(other, 1, 1, 0, 0);
        other.choose(10000);
        Check.due("its rows are its own", x.count(3), 20);
        Check.due("its aids are its own", x.look(0, 0), 0);
        Check.due("nothing of it is built", x.built(), 0);
        Check.due("its question is its own", x.run(0, 1), 0);
        Check.due("its choice is its own", x.choose(10000), 1);
        Check.due("its total", x.total(1), 3);
    }

    private static void table() {
        Check.sentence("TABLE t: true; false: it is told, no such t, COLUMNS, PAGE.");
        IndexDesk x = desk();
        Check.due("it is told", x.table(1, 2, 2), false);
        Check.due("it is told otherwise", x.table(1, 4, 8), false);
        Check.due("told without rows", x.table(2, 1, 3), false);
        for (int t : NO_NUMBERS) {
            Check.due(Desks.said("table", t), x.table(t, 1, 2), false);
        }
        Check.due("t -1", x.table(-1, 1, 2), false);
        Check.due("t 4", x.table(4, 1, 2), false);
        Check.due("columns 0", x.table(0, 0, 2), false);
        Check.due("columns 5", x.table(0, 5, 2), false);
        Check.due("page 1", x.table(0, 1, 1), false);
        Check.due("page 9", x.table(0, 1, 9), false);
        Check.due("the least", x.table(0, 1, 2), true);
        Check.due("the most", x.table(3, 4, 8), true);
        Check.due("a refused one can be told later, once", x.table(3, 4, 8), false);
    }

    private static void put() {
        Check.sentence("A ROW comes (values of COLUMNS that are not there are not looked at): its place;"
            + " NONE: no such TABLE, values, 60 are there.");
        int[] odd = {LOW, -1, 1000, HIGH};
        for (int columns = 1; columns <= 4; columns++) {
            IndexDesk x = new IndexDesk();
            x.table(0, columns, 2);
            int place = 0;
            for (int c = 0; c < 4; c++) {
                for (int value : odd) {
                    int got = x.put(0, c == 0 ? value : 1, c == 1 ? value : 1, c == 2 ? value : 1, c == 3 ? value : 1);
                    Check.due(value + " in " + c + " of " + columns, got, c < columns ? NONE : place++);
                }
            }
            Check.due("rows", x.counts(0, 0, 5), place);
            for (int t : new int[] {-1, 1, 2, 3, 4}) {
                Check.due(Desks.said("put", t), x.put(t, 1, 1, 1, 1), NONE);
            }
            for (int t : NO_NUMBERS) {
                Check.due(Desks.said("put", t), x.put(t, 1, 1, 1, 1), NONE);
            }
        }
        IndexDesk full = Desks.counting(2, 2, 60);
        Check.due("60 are there", full.put(0, 1, 1, 1, 1), NONE);
        full.table(1, 1, 2);
        Check.due("none of another table", full.put(1, 1, 1, 1, 1), 0);
    }

    private static void strike() {
        Check.sentence("The ROW at place r is struck: true; false: there is none such.");
        IndexDesk x = desk();
        for (int r : new int[] {LOW, -1, 20, 21, 59, 60, HIGH}) {
            Check.due(Desks.said("strike", 1, r), x.strike(1, r), false);
        }
        Check.due("of no rows", x.strike(2, 0), false);
        Check.due("of no table", x.strike(0, 0), false);
        Check.due("of table -1", x.strike(-1, 0), false);
        Check.due("of table 4", x.strike(4, 0), false);
        for (int t : NO_NUMBERS) {
            Check.due(Desks.said("strike", t, 0), x.strike(t, 0), false);
        }
        Check.due("all are there", x.counts(1, 0, 5), 20);
        for (int left = 20; left > 0; left--) {
            Check.due("none behind the last", x.strike(1, left), false);
            Check.due("the last", x.strike(1, left - 1), true);
        }
        Check.due("none is left", x.strike(1, 0), false);
    }

    private static void recount() {
        Check.sentence("TABLE t is RECOUNTED: how many ROWS; NONE: there is none such.");
        IndexDesk x = desk();
        Check.due("20 rows", x.recount(1), 20);
        Check.due("no rows", x.recount(2), 0);
        for (int t : new int[] {-1, 0, 3, 4}) {
            Check.due(Desks.said("recount", t), x.recount(t), NONE);
        }
        for (int t : NO_NUMBERS) {
            Check.due(Desks.said("recount", t), x.recount(t), NONE);
        }
        Check.due("60 rows", Desks.counting(1, 2, 60).recount(0), 60);
    }

    private static void counts() {
        Check.sentence("By COUNTS of TABLE t, what 0 ROWS, 1 PAGES; of COLUMN c: 2 UNLIKE, 3 LEAST, 4 GREATEST;"
            + " 5 how many ROWS there are now. NONE: no such ones. (0, 1, 5: c is not looked at.)");
        IndexDesk x = desk();
        x.strike(1, 0);
        int[] due = {20, 10, 20, 0, 19, 19};
        for (int c : new int[] {LOW, -1, 0, 1, 2, 3, 4, 32, HIGH}) {
            for (int what = 0; what < 6; what++) {
                boolean isTold = c == 0 || c == 1 || what == 0 || what == 1 || what == 5;
                Check.due(Desks.said("counts", 1, c, what), x.counts(1, c, what), isTold ? due[what] : NONE);
            }
            for (int what : new int[] {LOW, -1, 6, 7, 32, HIGH}) {
                Check.due(Desks.said("counts", 1, c, what), x.counts(1, c, what), NONE);
            }
        }
        for (int what = 0; what < 6; what++) {
            Check.due("of no rows", x.counts(2, 0, what), 0);
            Check.due("of no table", x.counts(0, 0, what), NONE);
            Check.due("of table -1", x.counts(-1, 0, what), NONE);
            Check.due("of table 4", x.counts(4, 0, what), NONE);
            for (int t : NO_NUMBERS) {
                Check.due(Desks.said("counts", t, 0, what), x.counts(t, 0, what), NONE);
            }
        }
    }

    private static void changes() {
        Check.sentence("CHANGES of a TABLE: true; false: no such ones.");
        IndexDesk x = desk();
        Check.due("0", x.changes(1, 0), true);
        Check.due("the same again", x.changes(1, 0), true);
        Check.due("1000", x.changes(1, 1000), true);
        for (int n : new int[] {LOW, -1, 1001, HIGH}) {
            Check.due(Desks.said("changes", 1, n), x.changes(1, n), false);
        }
        for (int t : new int[] {-1, 0, 3, 4}) {
            Check.due(Desks.said("changes", t, 1), x.changes(t, 1), false);
        }
        for (int t : NO_NUMBERS) {
            Check.due(Desks.said("changes", t, 1), x.changes(t, 1), false);
        }
    }

    private static void question() {
        Check.sentence("A QUESTION without TESTS: its number; NONE: no such TABLE, COLUMNS (bits), COLUMN, WEIGHT,"
            + " 24 are there.");
        IndexDesk x = desk();
        for (int t : new int[] {-1, 0, 3, 4}) {
            Check.due(Desks.said("question", t), x.question(t, 0, NONE, 1), NONE);
        }
        for (int t : NO_NUMBERS) {
            Check.due(Desks.said("question", t), x.question(t, 0, NONE, 1), NONE);
        }
        int[][] wrong = {{1, 4, NONE, 1}, {1, -1, NONE, 1}, {1, LOW, NONE, 1}, {1, 0, -2, 1}, {1, 0, 2, 1}, {1, 0, 32, 1},
            {1, 0, NONE, 0}, {1, 0, NONE, 101}, {2, 2, NONE, 1}, {2, 0, 1, 1}};
        for (int[] w : wrong) {
            Check.due(Desks.said("question", w), x.question(w[0], w[1], w[2], w[3]), NONE);
        }
        Check.due("refused ones take no number", x.question(1, 3, 1, 100), 0);
        Check.due("without tests all rows answer", x.run(0, 0), 20);
        Check.due("the next", x.question(2, 0, NONE, 1), 1);
        for (int q = 2; q < 24; q++) {
            x.question(1, 0, NONE, 1);
        }
        Check.due("24 are there", x.question(1, 0, NONE, 1), NONE);
        Check.due("they stay 24", x.count(1), 24);
    }

    private static void test() {
        Check.sentence("A TEST of a COLUMN (in place of one): true; false: no such ones, from above to, not 0 to 999.");
        IndexDesk x = desk();
        Check.due("no question yet", x.test(0, 0, 0, 0), false);
        x.question(1, 0, NONE, 1);
        x.question(2, 0, NONE, 1);
        int[][] wrong = {{2, 0, 0, 0}, {-1, 0, 0, 0}, {24, 0, 0, 0}, {0, -1, 0, 0}, {0, 2, 0, 0}, {0, 32, 0, 0}, {0, LOW, 0, 0},
            {0, HIGH, 0, 0}, {1, 1, 0, 0}, {0, 0, 1, 0}, {0, 0, 999, 998}, {0, 0, -1, 0}, {0, 0, 0, 1000}, {0, 0, 1000, 1000}};
        for (int[] w : wrong) {
            Check.due(Desks.said("test", w), x.test(w[0], w[1], w[2], w[3]), false);
        }
        for (int q : NO_NUMBERS) {
            Check.due(Desks.said("test", q), x.test(q, 0, 0, 0), false);
        }
        Check.due("none is there", x.run(0, 0), 20);
        Check.due("0 to 0", x.test(0, 0, 0, 0), true);
        Check.due("one", x.run(0, 0), 1);
        Check.due("0 to 999 in its place", x.test(0, 0, 0, 999), true);
        Check.due("all", x.run(0, 0), 20);
        Check.due("999 to 999 in its place", x.test(0, 0, 999, 999), true);
        Check.due("none", x.run(0, 0), 0);
        Check.due("the same again", x.test(0, 0, 999, 999), true);
    }

    private static void order() {
        Check.sentence("An ORDER (kind 0), COVERING (1, further COLUMNS as bits), or CLUSTER (4)"
            + " by a, b, c (b, c NONE: none; c NONE if b is): its number (not BUILT);"
            + " NONE: no such TABLE, kind, COLUMNS, 12 are there. (further is not looked at by 0, 4.)");
        IndexDesk x = desk();
        for (int t : new int[] {-1, 0, 3, 4}) {
            Check.due(Desks.said("order", t), x.order(t, 0, 0, NONE, NONE, 0), NONE);
        }
        for (int n : NO_NUMBERS) {
            Check.due("table " + n, x.order(n, 0, 0, NONE, NONE, 0), NONE);
            Check.due("kind " + n, x.order(1, n, 0, NONE, NONE, 2), NONE);
            Check.due("a " + n, x.order(1, 0, n, NONE, NONE, 0), NONE);
            Check.due("b " + n, x.order(1, 0, 0, n, NONE, 0), NONE);
            Check.due("c " + n, x.order(1, 0, 0, 1, n, 0), NONE);
        }
        for (int kind : new int[] {-1, 2, 3, 5}) {
            Check.due("kind " + kind, x.order(1, kind, 0, NONE, NONE, 2), NONE);
        }
        int[][] wrong = {{NONE, NONE, NONE}, {NONE, 0, NONE}, {2, NONE, NONE}, {0, 0, NONE}, {0, 2, NONE}, {0, NONE, 1},
            {0, NONE, 0}, {0, 1, 1}, {0, 1, 0}, {0, 1, 2}};
        for (int[] w : wrong) {
            for (int kind : new int[] {0, 1, 4}) {
                Check.due(Desks.said("order by", w), x.order(1, kind, w[0], w[1], w[2], 2), NONE);
            }
        }
        Check.due("refused ones take no number", x.order(1, 0, 1, 0, NONE, 0), 0);
        int a = 1;
        for (int further : new int[] {LOW, -1, 1, 4, HIGH}) {
            Check.due("0 does not look at " + further, x.order(1, 0, 0, NONE, NONE, further), a++);
            Check.due("4 does not look at " + further, x.order(1, 4, 0, NONE, NONE, further), a++);
            Check.due("1 does", x.order(1, 1, 0, NONE, NONE, further), NONE);
        }
        Check.due("none is built", x.built(), 0);
        Check.due("the 12th", x.order(1, 1, 0, NONE, NONE, 3), 11);
        for (int kind : new int[] {0, 1, 4}) {
            Check.due("12 are there", x.order(1, kind, 0, NONE, NONE, 2), NONE);
        }
    }

    private static void part() {
        Check.sentence("A PART, an ORDER by a, b (b NONE: none) of ROWS whose COLUMN c is from a value to another one: likewise.");
        IndexDesk x = desk();
        for (int t : new int[] {-1, 0, 3, 4}) {
            Check.due(Desks.said("part", t), x.part(t, 0, NONE, 0, 0, 0), NONE);
        }
        for (int n : NO_NUMBERS) {
            Check.due("table " + n, x.part(n, 0, NONE, 0, 0, 0), NONE);
            Check.due("a " + n, x.part(1, n, NONE, 0, 0, 0), NONE);
            Check.due("b " + n, x.part(1, 0, n, 0, 0, 0), NONE);
            Check.due("c " + n, x.part(1, 0, NONE, n, 0, 0), NONE);
        }
        int[][] wrong = {{NONE, NONE, 0, 0, 0}, {NONE, 0, 0, 0, 0}, {2, NONE, 0, 0, 0}, {0, 0, 0, 0, 0}, {0, 2, 0, 0, 0},
            {0, NONE, NONE, 0, 0}, {0, NONE, 2, 0, 0}, {0, NONE, 0, 1, 0}, {0, NONE, 0, -1, 0}, {0, NONE, 0, 999, 1000},
            {0, NONE, 0, 1000, 1000}, {0, NONE, 0, LOW, HIGH}};
        for (int[] w : wrong) {
            Check.due(Desks.said("part", w), x.part(1, w[0], w[1], w[2], w[3], w[4]), NONE);
        }
        Check.due("refused ones take no number", x.part(1, 1, 0, 0, 0, 0), 0);
        Check.due("of a column of its own", x.part(1, 0, NONE, 0, 999, 999), 1);
        Check.due("of a table without rows", x.part(2, 0, NONE, 0, 0, 999), 2);
        for (int a = 3; a < 12; a++) {
            x.part(1, 0, 1, 1, 0, 999);
        }
        Check.due("12 are there", x.part(1, 0, 1, 1, 0, 999), NONE);
        Check.due("none is built", x.built(), 0);
    }

    private static void sums() {
        Check.sentence("SUMS by COLUMNS (bits) of COLUMN c: likewise.");
        IndexDesk x = desk();
        for (int t : new int[] {-1, 0, 3, 4}) {
            Check.due(Desks.said("sums", t), x.sums(t, 1, 0), NONE);
        }
        for (int n : NO_NUMBERS) {
            Check.due("table " + n, x.sums(n, 1, 0), NONE);
            Check.due("columns " + n, x.sums(1, n, 0), NONE);
            Check.due("c " + n, x.sums(1, 1, n), NONE);
        }
        int[][] wrong = {{1, 0, 0}, {1, 4, 0}, {1, 5, 0}, {1, -1, 0}, {1, 1, NONE}, {1, 1, 2}, {2, 2, 0}, {2, 3, 0}, {2, 1, 1}};
        for (int[] w : wrong) {
            Check.due(Desks.said("sums", w), x.sums(w[0], w[1], w[2]), NONE);
        }
        Check.due("refused ones take no number", x.sums(1, 1, 1), 0);
        Check.due("of a column of its own set", x.sums(1, 3, 0), 1);
        int q = x.question(1, 0, 0, 1);
        x.test(q, 0, 3, 4);
        x.test(q, 1, 3, 4);
        Check.due("it helps", x.cost(q, 1), 1 + 5);
        for (int a = 2; a < 12; a++) {
            x.sums(2, 1, 0);
        }
        Check.due("12 are there", x.sums(1, 1, 1), NONE);
        Check.due("none is built", x.built(), 0);
    }

    private static void build() {
        Check.sentence("AID a is BUILT, or not: true; false: no such one, it is so, another CLUSTER of its TABLE is BUILT.");
        IndexDesk x = desk();
        for (boolean is : new boolean[] {false, true}) {
            Check.due("no aid yet", x.build(0, is), false);
        }
        Desks.by(x, 1, 4, 0, 0);
        Desks.by(x, 1, 4, 1, 0);
        Desks.by(x, 2, 4, 0, 0);
        Desks.by(x, 1, 0, 0, 0);
        Desks.by(x, 1, 1, 0, 2);
        x.part(1, 0, NONE, 0, 0, 0);
        x.sums(1, 1, 0);
        for (boolean is : new boolean[] {false, true}) {
            Check.due("aid -1", x.build(-1, is), false);
            Check.due("aid 7", x.build(7, is), false);
            Check.due("aid 12", x.build(12, is), false);
            for (int a : NO_NUMBERS) {
                Check.due(Desks.said("build", a), x.build(a, is), false);
            }
        }
        for (int a = 0; a < 7; a++) {
            Check.due("it is not", x.build(a, false), false);
            boolean isSecond = a == 1;
            Check.due("build " + a, x.build(a, true), !isSecond);
            Check.due("it is so, or another cluster is", x.build(a, true), false);
        }
        Check.due("all but the second cluster", x.built(), 127 - 2);
        Check.due("the first no longer", x.build(0, false), true);
        Check.due("the second now", x.build(1, true), true);
        Check.due("the first can't", x.build(0, true), false);
        Check.due("nor be taken down", x.build(0, false), false);
        Check.due("built", x.built(), 127 - 1);
    }

    private static void look() {
        Check.sentence("Of AID a, what 0 kind, 1 TABLE, 2 ROOM, 3 whether it is BUILT, 4 what it saves ALONE, 5 WORTH (NONE: it is not BUILT)."
            + " NONE for others (4 can be below 0, 5 too).");
        IndexDesk x = desk();
        Desks.by(x, 2, 0, 0, 0);
        Desks.by(x, 1, 4, 0, 0);
        x.changes(1, 1);
        for (int a : new int[] {-1, 2, 12}) {
            for (int what = -1; what < 7; what++) {
                Check.due(Desks.said("look", a, what), x.look(a, what), NONE);
            }
        }
        for (int n : NO_NUMBERS) {
            Check.due(Desks.said("look", n, 0), x.look(n, 0), NONE);
            Check.due(Desks.said("look", n, 4), x.look(n, 4), NONE);
            Check.due(Desks.said("look", 1, n), x.look(1, n), NONE);
        }
        Check.due("what -1", x.look(1, -1), NONE);
        Check.due("what 6", x.look(1, 6), NONE);
        int[] due = {4, 1, 0, 0, -4, NONE};
        for (int what = 0; what < 6; what++) {
            Check.due(Desks.said("look", 1, what), x.look(1, what), due[what]);
        }
        x.build(1, true);
        Check.due("it is built", x.look(1, 3), 1);
        Check.due("its worth", x.look(1, 5), -4);
        Check.due("the other is not", x.look(0, 3), 0);
        Check.due("the other's worth", x.look(0, 5), NONE);
    }

    private static void cost() {
        Check.sentence("THE COST of QUESTION q with AID a (NONE: PLAIN); NONE: no such ones, of another TABLE, or it does not HELP.");
        IndexDesk x = desk();
        Check.due("no question yet", x.cost(0, NONE), NONE);
        int q = Desks.ask(x, 1, 0, 3, 3);
        int other = Desks.ask(x, 2, 0, 3, 3);
        Check.due("PLAIN", x.cost(q, NONE), 10);
        Check.due("PLAIN of no rows", x.cost(other, NONE), 0);
        Check.due("no aid yet", x.cost(q, 0), NONE);
        Desks.by(x, 1, 0, 0, 0);
        Desks.by(x, 1, 0, 1, 0);
        Desks.by(x, 2, 0, 0, 0);
        Check.due("it helps, though not built", x.cost(q, 0), 3);
        Check.due("it does not help", x.cost(q, 1), NONE);
        Check.due("of another table", x.cost(q, 2), NONE);
        Check.due("of another table, too", x.cost(other, 0), NONE);
        Check.due("of its own", x.cost(other, 2), 1);
        for (int n : new int[] {-2, 3, 12}) {
            Check.due("aid " + n, x.cost(q, n), NONE);
        }
        for (int n : new int[] {-1, 2, 24}) {
            Check.due("question " + n, x.cost(n, 0), NONE);
            Check.due("question " + n + ", PLAIN", x.cost(n, NONE), NONE);
        }
        for (int n : NO_NUMBERS) {
            Check.due("aid " + n, x.cost(q, n), NONE);
            Check.due("question " + n, x.cost(n, NONE), NONE);
        }
    }

    private static void plan() {
        Check.sentence("THE PLAN of QUESTION q: an AID; NONE: PLAIN; -2: no such QUESTION.");
        IndexDesk x = desk();
        Check.due("no question yet", x.plan(0), -2);
        int q = Desks.ask(x, 1, 0, 3, 3);
        Check.due("PLAIN", x.plan(q), NONE);
        Desks.by(x, 1, 0, 0, 0);
        Check.due("not built", x.plan(q), NONE);
        x.build(0, true);
        Check.due("aid 0", x.plan(q), 0);
        for (int n : new int[] {-1, 1, 24}) {
            Check.due(Desks.said("plan", n), x.plan(n), -2);
        }
        for (int n : NO_NUMBERS) {
            Check.due(Desks.said("plan", n), x.plan(n), -2);
        }
    }

    private static void run() {
        Check.sentence("A RUN of QUESTION q, what 0 how many ROWS answer it, 1 their sum, 2 pages FETCHED,"
            + " 3 foretold (its PLAN's COST). NONE for others.");
        IndexDesk x = desk();
        int q = x.question(1, 0, 1, 1);
        x.test(q, 0, 3, 4);
        int[] due = {2, 7, 10, 10};
        for (int what = 0; what < 4; what++) {
            Check.due(Desks.said("run", q, what), x.run(q, what), due[what]);
            for (int n : new int[] {-1, 1, 24}) {
                Check.due(Desks.said("run", n, what), x.run(n, what), NONE);
            }
            for (int n : NO_NUMBERS) {
                Check.due(Desks.said("run", n, what), x.run(n, what), NONE);
            }
        }
        Check.due("what -1", x.run(q, -1), NONE);
        Check.due("what 4", x.run(q, 4), NONE);
        for (int n : NO_NUMBERS) {
            Check.due(Desks.said("run", q, n), x.run(q, n), NONE);
        }
        int none = x.question(2, 0, NONE, 1);
        for (int what = 0; what < 4; what++) {
            Check.due("of no rows", x.run(none, what), 0);
        }
    }

    private static void total() {
        Check.sentence("What a SET (bits of AIDS) costs; NONE: AIDS that are not there, two CLUSTERS of a TABLE.");
        dueSets((x, set) -> x.total(set));
    }

    private static void room() {
        Check.sentence("ROOM of a SET; NONE likewise.");
        dueSets((x, set) -> x.room(set));
    }

    private interface OfSet {
        long ask(IndexDesk x, int set);
    }

    /** Sets of clusters alone, so that what is no set is told from what costs and takes nothing. */
    private static void dueSets(OfSet of) {
        IndexDesk x = desk();
        Check.due("the empty set, no aids", of.ask(x, 0), 0);
        Check.due("aid 0, no aids", of.ask(x, 1), NONE);
        Check.due("-1, no aids", of.ask(x, -1), NONE);
        Check.due("bit 31, no aids", of.ask(x, LOW), NONE);
        Desks.by(x, 1, 4, 0, 0);
        Desks.by(x, 1, 4, 1, 0);
        Desks.by(x, 2, 4, 0, 0);
        for (int set : new int[] {0, 1, 2, 4, 5, 6}) {
            Check.due("set " + set, of.ask(x, set), 0);
        }
        for (int set : new int[] {3, 7, 8, 9, 12, 1 << 12, 1 << 16, 1 << 30, HIGH, LOW, LOW + 1, -1, -8}) {
            Check.due("set " + set, of.ask(x, set), NONE);
        }
        for (int a = 3; a < 12; a++) {
            Desks.by(x, 2, 0, 0, 0);
            Check.due("the last one", of.ask(x, 1 << a), 0);
            Check.due("one behind it", of.ask(x, 2 << a), NONE);
        }
        Check.due("all but one cluster", of.ask(x, 4095 - 1), 0);
        Check.due("all twelve, two clusters", of.ask(x, 4095), NONE);
    }

    private static void built() {
        Check.sentence("BUILT AIDS as bits.");
        IndexDesk x = desk();
        Check.due("none there", x.built(), 0);
        for (int a = 0; a < 12; a++) {
            Desks.by(x, 1, 0, 0, 0);
            Check.due("none built", x.built(), 0);
        }
        for (int a = 0; a < 12; a++) {
            x.build(a, true);
            Check.due("up to " + a, x.built(), (2 << a) - 1);
        }
        for (int a = 0; a < 12; a++) {
            x.build(a, false);
            Check.due("behind " + a, x.built(), 4095 & ~((2 << a) - 1));
        }
    }

    /** One ORDER of 5 pages that saves. */
    private static IndexDesk saving() {
        IndexDesk x = desk();
        Desks.by(x, 1, 0, 0, 0);
        Desks.ask(x, 1, 0, 3, 3);
        return x;
    }

    private static void choose() {
        Check.sentence("THE CHOICE within a ROOM (0 to 10000), as bits; NONE: no such ROOM. (Nothing is BUILT by it.)");
        IndexDesk x = saving();
        for (int room : new int[] {LOW, -10000, -1, 10001, 65536, HIGH}) {
            Check.due(Desks.said("choose", room), x.choose(room), NONE);
        }
        int[][] due = {{0, 0}, {1, 0}, {4, 0}, {5, 1}, {6, 1}, {9999, 1}, {10000, 1}};
        for (int[] d : due) {
            Check.due(Desks.said("choose", d[0]), x.choose(d[0]), d[1]);
            Check.due("nothing is built", x.built(), 0);
            Check.due("nor planned", x.plan(0), NONE);
        }
        x.build(0, true);
        Check.due("what is built takes no room", x.choose(0), 0);
        Check.due("it stays built", x.built(), 1);
    }

    private static void greedy() {
        Check.sentence("GREEDY's SET likewise.");
        IndexDesk x = saving();
        for (int room : new int[] {LOW, -10000, -1, 10001, 65536, HIGH}) {
            Check.due(Desks.said("greedy", room), x.greedy(room), NONE);
        }
        int[][] due = {{0, 0}, {1, 0}, {4, 0}, {5, 1}, {6, 1}, {9999, 1}, {10000, 1}};
        for (int[] d : due) {
            Check.due(Desks.said("greedy", d[0]), x.greedy(d[0]), d[1]);
            Check.due("nothing is built", x.built(), 0);
            Check.due("nor planned", x.plan(0), NONE);
        }
        x.build(0, true);
        Check.due("what is built takes no room", x.greedy(0), 0);
        Check.due("it stays built", x.built(), 1);
    }

    private static void count() {
        Check.sentence("0 TABLES, 1 QUESTIONS, 2 AIDS, 3 ROWS in all. NONE for others.");
        IndexDesk x = saving();
        int[] due = {2, 1, 1, 20};
        for (int what = 0; what < 4; what++) {
            Check.due(Desks.said("count", what), x.count(what), due[what]);
        }
        for (int what : new int[] {-1, 4, 5}) {
            Check.due(Desks.said("count", what), x.count(what), NONE);
        }
        for (int what : NO_NUMBERS) {
            Check.due(Desks.said("count", what), x.count(what), NONE);
        }
        x.put(2, 1, 0, 0, 0);
        Check.due("rows of all tables, as they are now", x.count(3), 21);
        x.strike(1, 0);
        x.strike(1, 0);
        Check.due("without those struck", x.count(3), 19);
    }
}
