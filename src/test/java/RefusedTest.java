import java.util.ArrayList;
import java.util.List;

/**
 * "A call that is refused (NONE, false) changes nothing.": of two desks made alike one gets the refused call,
 * then answers of every kind of call are compared between both.
 */
public final class RefusedTest {
    private static final int NONE = Desks.NONE;
    private static final int LOW = Desks.LOW;
    private static final int HIGH = Desks.HIGH;

    /** So many that a desk is made, refuses them and tells all within its 512 calls. */
    private static final int IN_TURN = 100;

    private interface Maker {
        IndexDesk make();
    }

    private interface Call {
        long on(IndexDesk x);
    }

    private record Refused(String name, Call call, long due) {
    }

    private final List<Refused> calls = new ArrayList<>();

    private RefusedTest() {
    }

    public static void main(String[] args) {
        Check.sentence("A call that is refused (NONE, false) changes nothing.");
        RefusedTest anywhere = new RefusedTest();
        anywhere.wrongTablesAndRows();
        anywhere.wrongQuestionsAndTests();
        anywhere.wrongAids();
        anywhere.wrongReadings();
        anywhere.areRefusedBy("empty", IndexDesk::new);
        anywhere.areRefusedBy("rich", RefusedTest::rich);
        anywhere.areRefusedBy("full", RefusedTest::full);
        RefusedTest inRich = new RefusedTest();
        inRich.refusedByWhatIsThere();
        inRich.areRefusedBy("rich", RefusedTest::rich);
        RefusedTest inFull = new RefusedTest();
        inFull.refusedForWantOfRoom();
        inFull.areRefusedBy("full", RefusedTest::full);
        severalRefusedCalls(anywhere, inRich);
        Check.finish();
    }

    // ---- the desks ----

    /** Tables 0 and 2, COUNTS that are no longer true, tests, aids of each kind, some of them built. */
    private static IndexDesk rich() {
        IndexDesk x = new IndexDesk();
        x.table(0, 3, 2);
        x.table(2, 1, 5);
        for (int r = 0; r < 30; r++) {
            x.put(0, r % 10, r, 900 - r, 0);
            x.put(2, 3 * r, 0, 0, 0);
        }
        x.recount(0);
        x.recount(2);
        x.strike(0, 4);
        x.put(2, 999, 0, 0, 0);
        x.changes(0, 3);
        x.changes(2, 1);
        x.question(0, 7, NONE, 10);
        x.test(0, 0, 4, 4);
        x.question(0, 0, 1, 5);
        x.test(1, 0, 2, 6);
        x.question(2, 1, 0, 7);
        x.test(2, 0, 9, 12);
        x.order(0, 0, 0, 1, NONE, 0);
        x.order(0, 1, 0, NONE, NONE, 6);
        x.part(0, 1, NONE, 0, 2, 6);
        x.sums(0, 1, 1);
        x.order(0, 4, 0, NONE, NONE, 0);
        x.order(0, 4, 1, NONE, NONE, 0);
        x.order(2, 0, 0, NONE, NONE, 0);
        x.build(0, true);
        x.build(3, true);
        x.build(4, true);
        return x;
    }

    /** The same with 24 questions, 12 aids, 60 rows in table 0, and no table that is not told. */
    private static IndexDesk full() {
        IndexDesk x = rich();
        x.table(1, 2, 8);
        x.table(3, 4, 2);
        for (int r = 29; r < 60; r++) {
            x.put(0, 5, 5, 5, 0);
        }
        for (int q = 3; q < 24; q++) {
            x.question(0, 2, NONE, q);
        }
        for (int a = 7; a < 12; a++) {
            x.part(2, 0, NONE, 0, a, 10 * a);
        }
        return x;
    }

    // ---- what is refused ----

    private void no(String name, Call call) {
        calls.add(new Refused(name, call, NONE));
    }

    private void not(String name, Call call) {
        calls.add(new Refused(name, call, 0));
    }

    private static long of(boolean is) {
        return is ? 1 : 0;
    }

    private void wrongTablesAndRows() {
        for (int t : new int[] {LOW, -1, 4, 32, HIGH}) {
            not("table " + t, x -> of(x.table(t, 2, 2)));
            no("put to " + t, x -> x.put(t, 1, 1, 1, 1));
            not("strike of " + t, x -> of(x.strike(t, 0)));
            no("recount " + t, x -> x.recount(t));
            not("changes of " + t, x -> of(x.changes(t, 9)));
            no("question of " + t, x -> x.question(t, 0, NONE, 1));
            no("order of " + t, x -> x.order(t, 0, 0, NONE, NONE, 0));
            no("part of " + t, x -> x.part(t, 0, NONE, 0, 0, 0));
            no("sums of " + t, x -> x.sums(t, 1, 0));
        }
        for (int columns : new int[] {LOW, -1, 0, 5, HIGH}) {
            not("table of columns " + columns, x -> of(x.table(1, columns, 2)));
            not("table 0 of columns " + columns, x -> of(x.table(0, columns, 2)));
        }
        for (int page : new int[] {LOW, 0, 1, 9, HIGH}) {
            not("table of page " + page, x -> of(x.table(1, 1, page)));
            not("table 0 of page " + page, x -> of(x.table(0, 3, page)));
        }
        for (int value : new int[] {LOW, -1, 1000, HIGH}) {
            no("put a " + value, x -> x.put(0, value, 1, 1, 1));
            no("put b " + value, x -> x.put(0, 1, value, 1, 1));
            no("put c " + value, x -> x.put(0, 1, 1, value, 1));
        }
        for (int r : new int[] {LOW, -1, 60, HIGH}) {
            not("strike " + r, x -> of(x.strike(0, r)));
        }
        for (int n : new int[] {LOW, -1, 1001, HIGH}) {
            not("changes " + n, x -> of(x.changes(0, n)));
        }
    }

    private void wrongQuestionsAndTests() {
        for (int bits : new int[] {LOW, -1, 8, 9, HIGH}) {
            no("wants " + bits, x -> x.question(0, bits, NONE, 1));
        }
        for (int c : new int[] {LOW, -2, 3, 32, HIGH}) {
            no("adds up " + c, x -> x.question(0, 0, c, 1));
            not("test of " + c, x -> of(x.test(0, c, 0, 0)));
        }
        for (int weight : new int[] {LOW, 0, 101, HIGH}) {
            no("weight " + weight, x -> x.question(0, 0, NONE, weight));
        }
        for (int q : new int[] {LOW, -1, 24, 32, HIGH}) {
            not("test of question " + q, x -> of(x.test(q, 0, 0, 0)));
        }
        int[][] ranges = {{1, 0}, {-1, 4}, {4, 1000}, {1000, 1000}, {LOW, HIGH}, {HIGH, LOW}};
        for (int[] r : ranges) {
            not(Desks.said("test", r), x -> of(x.test(0, 0, r[0], r[1])));
            no(Desks.said("part", r), x -> x.part(0, 0, NONE, 0, r[0], r[1]));
        }
    }

    private void wrongAids() {
        int[][] by = {{NONE, NONE, NONE}, {3, NONE, NONE}, {0, 0, NONE}, {0, 3, NONE}, {0, NONE, 1}, {0, 1, 0}, {0, 1, 1},
            {0, 1, 3}, {0, -2, NONE}, {0, 1, -2}, {32, NONE, NONE}};
        for (int[] b : by) {
            for (int kind : new int[] {0, 1, 4}) {
                no(Desks.said("order by", b), x -> x.order(0, kind, b[0], b[1], b[2], 7));
            }
        }
        for (int kind : new int[] {LOW, -1, 2, 3, 5, HIGH}) {
            no("kind " + kind, x -> x.order(0, kind, 0, NONE, NONE, 2));
        }
        for (int further : new int[] {LOW, -1, 0, 1, 8, 10, HIGH}) {
            no("further " + further, x -> x.order(0, 1, 0, NONE, NONE, further));
        }
        for (int columns : new int[] {LOW, -1, 0, 7, 8, 9, HIGH}) {
            no("sums by " + columns, x -> x.sums(0, columns, 0));
        }
        for (int c : new int[] {LOW, -1, 3, 32, HIGH}) {
            no("sums of " + c, x -> x.sums(0, 1, c));
            no("part of column " + c, x -> x.part(0, 0, NONE, c, 0, 0));
        }
        for (int a : new int[] {LOW, -1, 12, 32, HIGH}) {
            not("build " + a, x -> of(x.build(a, true)));
            not("take down " + a, x -> of(x.build(a, false)));
        }
    }

    private void wrongReadings() {
        for (int n : new int[] {LOW, -2, 24, 32, HIGH}) {
            no("look at " + n, x -> x.look(n, 4));
            no("look for " + n, x -> x.look(0, n));
            no("cost of " + n, x -> x.cost(n, NONE));
            no("cost with " + n, x -> x.cost(0, n));
            no("run of " + n, x -> x.run(n, 2));
            no("run for " + n, x -> x.run(0, n));
            no("counts of " + n, x -> x.counts(n, 0, 0));
            no("counts of column " + n, x -> x.counts(0, n, 2));
            no("counts for " + n, x -> x.counts(0, 0, n));
            no("count " + n, x -> x.count(n));
            calls.add(new Refused("plan " + n, x -> x.plan(n), -2));
        }
        for (int set : new int[] {LOW, -1, 1 << 12, HIGH}) {
            no("total " + set, x -> x.total(set));
            no("room " + set, x -> x.room(set));
        }
        for (int room : new int[] {LOW, -1, 10001, HIGH}) {
            no("choose " + room, x -> x.choose(room));
            no("greedy " + room, x -> x.greedy(room));
        }
    }

    private void refusedByWhatIsThere() {
        not("a table that is told", x -> of(x.table(0, 3, 2)));
        not("told otherwise", x -> of(x.table(0, 4, 8)));
        not("told without columns of before", x -> of(x.table(2, 4, 2)));
        not("strike behind the last", x -> of(x.strike(0, 29)));
        not("strike of another table", x -> of(x.strike(1, 0)));
        no("a table that is not told", x -> x.put(1, 1, 1, 1, 1));
        no("recount of it", x -> x.recount(3));
        not("changes of it", x -> of(x.changes(3, 5)));
        no("a question of it", x -> x.question(1, 0, NONE, 1));
        not("a test of no question", x -> of(x.test(3, 0, 0, 0)));
        not("a test of a column of another table", x -> of(x.test(2, 1, 0, 0)));
        no("a column of another table", x -> x.order(2, 0, 1, NONE, NONE, 0));
        not("it is built", x -> of(x.build(0, true)));
        not("it is not built", x -> of(x.build(1, false)));
        not("another cluster is built", x -> of(x.build(5, true)));
        not("no such aid", x -> of(x.build(7, true)));
        no("it has no worth", x -> x.look(1, 5));
        no("it does not help", x -> x.cost(0, 3));
        no("an aid of another table", x -> x.cost(0, 6));
        no("two clusters", x -> x.total(1 << 4 | 1 << 5));
        no("two clusters' room", x -> x.room(1 << 4 | 1 << 5));
        no("an aid that is not there", x -> x.total(1 << 7));
    }

    private void refusedForWantOfRoom() {
        no("the 61st row", x -> x.put(0, 1, 2, 3, 4));
        no("the 25th question", x -> x.question(2, 1, 0, 50));
        no("the 13th aid, an order", x -> x.order(0, 0, 1, NONE, NONE, 0));
        no("the 13th aid, a covering", x -> x.order(0, 1, 1, NONE, NONE, 1));
        no("the 13th aid, a cluster", x -> x.order(0, 4, 1, NONE, NONE, 0));
        no("the 13th aid, a part", x -> x.part(0, 0, NONE, 1, 0, 9));
        no("the 13th aid, sums", x -> x.sums(0, 2, 0));
        for (int t = 0; t < 4; t++) {
            int told = t;
            not("table " + t + " is told", x -> of(x.table(told, 2, 4)));
        }
    }

    // ---- the comparison ----

    private void areRefusedBy(String desk, Maker maker) {
        String before = everything(maker.make());
        for (Refused refused : calls) {
            IndexDesk x = maker.make();
            Check.due(desk + ": " + refused.name, refused.call.on(x), refused.due);
            Check.due(desk + ": all behind " + refused.name, everything(x), before);
        }
    }

    private static void severalRefusedCalls(RefusedTest one, RefusedTest other) {
        List<Refused> all = new ArrayList<>(one.calls);
        all.addAll(other.calls);
        String before = everything(rich());
        for (int first = 0; first < all.size(); first += IN_TURN) {
            IndexDesk x = rich();
            for (Refused refused : all.subList(first, Math.min(first + IN_TURN, all.size()))) {
                Check.due("in turn: " + refused.name, refused.call.on(x), refused.due);
            }
            Check.due("all behind them", everything(x), before);
        }
    }

    /**
     * Answers of every kind of call (of 24 questions the first and the last). At last rows are
     * recounted and each thing that may come does, so that nothing hides.
     */
    private static String everything(IndexDesk x) {
        StringBuilder told = new StringBuilder();
        for (int what = 0; what < 4; what++) {
            told.append(x.count(what)).append(' ');
        }
        tellTables(x, told);
        tellQuestions(x, told);
        tellAids(x, told);
        for (int t = 0; t < 4; t++) {
            told.append(x.recount(t)).append(' ');
        }
        tellTables(x, told);
        told.append(x.table(1, 1, 2)).append(x.put(0, 9, 9, 9, 9)).append(' ').append(x.question(0, 0, NONE, 1));
        told.append(' ').append(x.sums(0, 1, 0)).append(x.build(5, true)).append(x.build(1, true)).append(x.built());
        return told.toString();
    }

    private static void tellTables(IndexDesk x, StringBuilder told) {
        for (int t = 0; t < 4; t++) {
            told.append("\n  table ").append(t).append(':');
            for (int what = 0; what < 6; what++) {
                for (int c = 0; c < (what > 1 && what < 5 ? 4 : 1); c++) {
                    told.append(' ').append(x.counts(t, c, what));
                }
            }
        }
    }

    private static void tellQuestions(IndexDesk x, StringBuilder told) {
        for (int q : new int[] {0, 1, 2, 3, 23}) {
            told.append("\n  question ").append(q).append(": ").append(x.plan(q));
            for (int what = 0; what < 4; what++) {
                told.append(' ').append(x.run(q, what));
            }
            for (int a = NONE; a < 8; a++) {
                told.append(' ').append(x.cost(q, a));
            }
        }
    }

    private static void tellAids(IndexDesk x, StringBuilder told) {
        for (int a : new int[] {0, 1, 2, 3, 4, 5, 6, 7, 11}) {
            told.append("\n  aid ").append(a).append(':');
            for (int what = 0; what < 6; what++) {
                told.append(' ').append(x.look(a, what));
            }
        }
        told.append("\n  sets: ").append(x.built()).append(' ').append(x.total(x.built())).append(' ').append(x.total(0));
        for (int room : new int[] {0, 7, 10000}) {
            told.append(' ').append(x.choose(room)).append(' ').append(x.greedy(room));
        }
        told.append('\n');
    }
}
