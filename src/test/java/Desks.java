/** Desks that several tests begin with. */
final class Desks {
    static final int NONE = IndexDesk.NONE;
    static final int LOW = Integer.MIN_VALUE;
    static final int HIGH = Integer.MAX_VALUE;

    private Desks() {
    }

    /** Table 0, recounted, with these rows; a row has as many values as there are columns. */
    static IndexDesk of(int page, int[]... rows) {
        IndexDesk x = new IndexDesk();
        x.table(0, rows[0].length, page);
        for (int[] row : rows) {
            put(x, 0, row);
        }
        x.recount(0);
        return x;
    }

    /** Table 0 with n rows of so many columns, recounted: the row at place r has r in each of them. */
    static IndexDesk counting(int columns, int page, int n) {
        IndexDesk x = new IndexDesk();
        count(x, 0, columns, page, n);
        return x;
    }

    /** The same as a further table of a desk. */
    static void count(IndexDesk x, int t, int columns, int page, int n) {
        x.table(t, columns, page);
        for (int r = 0; r < n; r++) {
            x.put(t, r, r, r, r);
        }
        x.recount(t);
    }

    static int put(IndexDesk x, int t, int... row) {
        return x.put(t, at(row, 0), at(row, 1), at(row, 2), at(row, 3));
    }

    private static int at(int[] row, int c) {
        return c < row.length ? row[c] : 0;
    }

    /** An ORDER, COVERING or CLUSTER by one column. */
    static int by(IndexDesk x, int t, int kind, int column, int further) {
        return x.order(t, kind, column, NONE, NONE, further);
    }

    /** A question of weight 1 that wants nothing and adds nothing up, with one test. */
    static int ask(IndexDesk x, int t, int c, int from, int to) {
        int q = x.question(t, 0, NONE, 1);
        x.test(q, c, from, to);
        return q;
    }

    static int up(int n, int divisor) {
        return (n + divisor - 1) / divisor;
    }

    static String said(String name, int... arguments) {
        StringBuilder text = new StringBuilder(name).append('(');
        for (int i = 0; i < arguments.length; i++) {
            text.append(i == 0 ? "" : ", ").append(arguments[i]);
        }
        return text.append(')').toString();
    }
}
