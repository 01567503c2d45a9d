import java.util.ArrayList;

/**
 * An index adviser: it foretells by counts what questions cost with each aid,
 * chooses a set of aids that fits a room, and holds what it foretold against a run.
 */
public final class IndexDesk {
    public static final int NONE = -1;

    private static final int NO_QUESTION = -2;
    private static final int MOST_TABLES = 4;
    private static final int MOST_COLUMNS = 4;
    private static final int LEAST_PAGE = 2;
    private static final int MOST_PAGE = 8;
    private static final int MOST_ROWS = 60;
    private static final int MOST_VALUE = 999;
    private static final int MOST_CHANGES = 1000;
    private static final int MOST_QUESTIONS = 24;
    private static final int MOST_WEIGHT = 100;
    private static final int MOST_AIDS = 12;
    private static final int MOST_ROOM = 10000;

    private static final int ORDER = 0;
    private static final int COVERING = 1;
    private static final int PART = 2;
    private static final int SUMS = 3;
    private static final int CLUSTER = 4;

    private final Table[] tables = new Table[MOST_TABLES];
    private final ArrayList<Question> questions = new ArrayList<>();
    private final ArrayList<Aid> aids = new ArrayList<>();
    private final Scales scales = new Scales();

    public IndexDesk() {
    }

    // ---- tables ----

    public boolean table(int t, int columns, int page) {
        if (!isBetween(t, 0, MOST_TABLES - 1) || tables[t] != null) {
            return false;
        }
        if (!isBetween(columns, 1, MOST_COLUMNS) || !isBetween(page, LEAST_PAGE, MOST_PAGE)) {
            return false;
        }
        tables[t] = new Table(t, columns, page);
        return true;
    }

    public int put(int t, int a, int b, int c, int d) {
        Table table = tableAt(t);
        if (table == null || table.rows >= MOST_ROWS || !table.allows(a, b, c, d)) {
            return NONE;
        }
        return table.append(a, b, c, d);
    }

    public boolean strike(int t, int r) {
        Table table = tableAt(t);
        if (table == null || !isBetween(r, 0, table.rows - 1)) {
            return false;
        }
        table.remove(r);
        return true;
    }

    public int recount(int t) {
        Table table = tableAt(t);
        if (table == null) {
            return NONE;
        }
        table.takeCounts();
        return table.countedRows;
    }

    public int counts(int t, int c, int what) {
        Table table = tableAt(t);
        if (table == null) {
            return NONE;
        }
        switch (what) {
            case 0:
                return table.countedRows;
            case 1:
                return table.countedPages();
            case 5:
                return table.rows;
            default:
                return table.countOfColumn(c, what);
        }
    }

    public boolean changes(int t, int n) {
        Table table = tableAt(t);
        if (table == null || !isBetween(n, 0, MOST_CHANGES)) {
            return false;
        }
        table.changing = n;
        return true;
    }

    // ---- questions ----

    public int question(int t, int wants, int adds, int weight) {
        Table table = tableAt(t);
        if (table == null || questions.size() >= MOST_QUESTIONS) {
            return NONE;
        }
        if (!table.hasAll(wants) || !table.hasOrNone(adds) || !isBetween(weight, 1, MOST_WEIGHT)) {
            return NONE;
        }
        questions.add(new Question(table, wants, adds, weight));
        return questions.size() - 1;
    }

    public boolean test(int q, int c, int from, int to) {
        Question question = questionAt(q);
        if (question == null || !question.table.has(c) || !isRange(from, to)) {
            return false;
        }
        question.limit(c, from, to);
        return true;
    }

    // ---- aids ----

    public int order(int t, int kind, int a, int b, int c, int further) {
        Table table = tableForAid(t);
        if (table == null || !canOrderBy(table, a, b, c)) {
            return NONE;
        }
        int own = bit(a) | bit(b) | bit(c);
        if (kind == ORDER) {
            return enlist(new Order(table, a, b, c));
        }
        if (kind == COVERING && table.hasAll(further) && (further & ~own) != 0) {
            return enlist(new Covering(table, a, b, c, further));
        }
        if (kind == CLUSTER) {
            return enlist(new Cluster(table, a, b, c));
        }
        return NONE;
    }

    public int part(int t, int a, int b, int c, int from, int to) {
        Table table = tableForAid(t);
        if (table == null || !canOrderBy(table, a, b, NONE)) {
            return NONE;
        }
        if (!table.has(c) || !isRange(from, to)) {
            return NONE;
        }
        return enlist(new Part(table, a, b, c, from, to));
    }

    public int sums(int t, int columns, int c) {
        Table table = tableForAid(t);
        if (table == null || !table.hasAll(columns) || !table.has(c)) {
            return NONE;
        }
        return isBetween(Integer.bitCount(columns), 1, 2) ? enlist(new Sums(table, columns, c)) : NONE;
    }

    public boolean build(int a, boolean is) {
        Aid aid = aidAt(a);
        if (aid == null || aid.isBuilt == is) {
            return false;
        }
        if (is && (rivalsOf(aids, a) & built()) != 0) {
            return false;
        }
        aid.isBuilt = is;
        return true;
    }

    public long look(int a, int what) {
        Aid aid = aidAt(a);
        if (aid == null) {
            return NONE;
        }
        switch (what) {
            case 0:
                return aid.kind;
            case 1:
                return aid.table.number;
            case 2:
                return aid.space();
            case 3:
                return aid.isBuilt ? 1 : 0;
            case 4:
                scales.load(questions, aids);
                return scales.weigh(0) - scales.weigh(bit(a));
            case 5:
                if (!aid.isBuilt) {
                    return NONE;
                }
                scales.load(questions, aids);
                return scales.weigh(built() & ~bit(a)) - scales.weigh(built());
            default:
                return NONE;
        }
    }

    // ---- costs, plans, runs ----

    public int cost(int q, int a) {
        Question question = questionAt(q);
        if (question == null) {
            return NONE;
        }
        if (a == NONE) {
            return question.table.countedPages();
        }
        Aid aid = aidAt(a);
        if (aid == null || aid.table != question.table || !aid.helps(question)) {
            return NONE;
        }
        return aid.foretold(question);
    }

    public int plan(int q) {
        Question question = questionAt(q);
        if (question == null) {
            return NO_QUESTION;
        }
        int chosen = NONE;
        int lowest = cost(q, NONE);
        for (int a = 0; a < aids.size(); a++) {
            int offered = aids.get(a).isBuilt ? cost(q, a) : NONE;
            if (offered != NONE && offered < lowest) {
                chosen = a;
                lowest = offered;
            }
        }
        return chosen;
    }

    public int run(int q, int what) {
        Question question = questionAt(q);
        if (question == null) {
            return NONE;
        }
        switch (what) {
            case 0:
                return question.answering();
            case 1:
                return question.addedUp();
            case 2:
                Aid aid = aidAt(plan(q));
                return aid == null ? question.table.pages() : aid.fetched(question);
            case 3:
                return cost(q, plan(q));
            default:
                return NONE;
        }
    }

    // ---- sets ----

    public long total(int set) {
        if (!isSet(set)) {
            return NONE;
        }
        scales.load(questions, aids);
        return scales.weigh(set);
    }

    public int room(int set) {
        if (!isSet(set)) {
            return NONE;
        }
        int sum = 0;
        for (int a = 0; a < aids.size(); a++) {
            sum += isIn(a, set) ? aids.get(a).space() : 0;
        }
        return sum;
    }

    public int built() {
        int set = 0;
        for (int a = 0; a < aids.size(); a++) {
            set |= aids.get(a).isBuilt ? bit(a) : 0;
        }
        return set;
    }

    public int choose(int room) {
        if (!isBetween(room, 0, MOST_ROOM)) {
            return NONE;
        }
        scales.load(questions, aids);
        return scales.cheapest(room);
    }

    public int greedy(int room) {
        if (!isBetween(room, 0, MOST_ROOM)) {
            return NONE;
        }
        scales.load(questions, aids);
        return scales.gathered(room);
    }

    public int count(int what) {
        switch (what) {
            case 0:
                return tablesTold();
            case 1:
                return questions.size();
            case 2:
                return aids.size();
            case 3:
                return rowsInAll();
            default:
                return NONE;
        }
    }

    // ---- what the calls share ----

    private Table tableAt(int t) {
        return isBetween(t, 0, MOST_TABLES - 1) ? tables[t] : null;
    }

    private Question questionAt(int q) {
        return isBetween(q, 0, questions.size() - 1) ? questions.get(q) : null;
    }

    private Aid aidAt(int a) {
        return isBetween(a, 0, aids.size() - 1) ? aids.get(a) : null;
    }

    /** The table that a new aid is of; null if there is no such table or no place for an aid. */
    private Table tableForAid(int t) {
        return aids.size() < MOST_AIDS ? tableAt(t) : null;
    }

    private int enlist(Aid aid) {
        aids.add(aid);
        return aids.size() - 1;
    }

    private boolean isSet(int set) {
        // The shift keeps its meaning because there are never more than MOST_AIDS aids.
        if ((set >>> aids.size()) != 0) {
            return false;
        }
        for (int a = 0; a < aids.size(); a++) {
            if (isIn(a, set) && (rivalsOf(aids, a) & set) != 0) {
                return false;
            }
        }
        return true;
    }

    private int tablesTold() {
        int told = 0;
        for (Table table : tables) {
            told += table == null ? 0 : 1;
        }
        return told;
    }

    private int rowsInAll() {
        int sum = 0;
        for (Table table : tables) {
            sum += table == null ? 0 : table.rows;
        }
        return sum;
    }

    private static boolean canOrderBy(Table table, int a, int b, int c) {
        if (!table.has(a) || !table.hasOrNone(b) || !table.hasOrNone(c)) {
            return false;
        }
        if (b == NONE) {
            return c == NONE;
        }
        return a != b && a != c && b != c;
    }

    /** The other CLUSTERS of a CLUSTER's table, as bits: none of them may stand beside it. */
    private static int rivalsOf(ArrayList<Aid> aids, int a) {
        if (!isBetween(a, 0, aids.size() - 1) || aids.get(a).kind != CLUSTER) {
            return 0;
        }
        int rivals = 0;
        for (int other = 0; other < aids.size(); other++) {
            Aid aid = aids.get(other);
            if (other != a && aid.kind == CLUSTER && aid.table == aids.get(a).table) {
                rivals |= bit(other);
            }
        }
        return rivals;
    }

    private static boolean isBetween(int n, int from, int to) {
        return n >= from && n <= to;
    }

    private static boolean isRange(int from, int to) {
        return from >= 0 && from <= to && to <= MOST_VALUE;
    }

    private static int bit(int n) {
        return n < 0 ? 0 : 1 << n;
    }

    private static boolean isIn(int n, int bits) {
        return n >= 0 && ((bits >>> n) & 1) != 0;
    }

    private static int dividedUp(int n, int divisor) {
        return n <= 0 || divisor <= 0 ? 0 : (n + divisor - 1) / divisor;
    }

    /** A TABLE: its rows as they are now, and its COUNTS as they were taken last. */
    private static final class Table {
        final int number;
        final int columns;
        final int page;
        int rows;
        int changing;
        int countedRows;
        private final int[] cells = new int[MOST_ROWS * MOST_COLUMNS];
        private final int[] unlike = new int[MOST_COLUMNS];
        private final int[] least = new int[MOST_COLUMNS];
        private final int[] greatest = new int[MOST_COLUMNS];

        Table(int number, int columns, int page) {
            this.number = number;
            this.columns = columns;
            this.page = page;
        }

        boolean has(int c) {
            return c >= 0 && c < columns;
        }

        boolean hasOrNone(int c) {
            return c == NONE || has(c);
        }

        boolean hasAll(int bits) {
            return (bits >>> columns) == 0;
        }

        boolean allows(int a, int b, int c, int d) {
            return allowsAt(0, a) && allowsAt(1, b) && allowsAt(2, c) && allowsAt(3, d);
        }

        private boolean allowsAt(int c, int value) {
            return !has(c) || isBetween(value, 0, MOST_VALUE);
        }

        int append(int a, int b, int c, int d) {
            int place = rows;
            rows++;
            write(place, 0, a);
            write(place, 1, b);
            write(place, 2, c);
            write(place, 3, d);
            return place;
        }

        private void write(int r, int c, int value) {
            if (isCell(r, c)) {
                cells[r * MOST_COLUMNS + c] = value;
            }
        }

        private boolean isCell(int r, int c) {
            return r >= 0 && r < rows && c >= 0 && c < columns;
        }

        int value(int r, int c) {
            return isCell(r, c) ? cells[r * MOST_COLUMNS + c] : 0;
        }

        void remove(int r) {
            for (int behind = r + 1; behind < rows; behind++) {
                for (int c = 0; c < columns; c++) {
                    write(behind - 1, c, value(behind, c));
                }
            }
            rows--;
        }

        int pages() {
            return dividedUp(rows, page);
        }

        int countedPages() {
            return dividedUp(countedRows, page);
        }

        int pageOf(int r) {
            return page <= 0 ? 0 : r / page;
        }

        void takeCounts() {
            countedRows = rows;
            for (int c = 0; c < columns; c++) {
                unlike[c] = unlikeRows(bit(c));
                takeEnds(c);
            }
        }

        private void takeEnds(int c) {
            int low = value(0, c);
            int high = low;
            for (int r = 1; r < rows; r++) {
                low = Math.min(low, value(r, c));
                high = Math.max(high, value(r, c));
            }
            least[c] = low;
            greatest[c] = high;
        }

        int countOfColumn(int c, int what) {
            if (!has(c)) {
                return NONE;
            }
            switch (what) {
                case 2:
                    return unlike[c];
                case 3:
                    return least[c];
                case 4:
                    return greatest[c];
                default:
                    return NONE;
            }
        }

        /** How many unlike rows of values there are now in these columns (bits). */
        int unlikeRows(int bits) {
            int found = 0;
            for (int r = 0; r < rows; r++) {
                found += isFirstOfItsLike(r, bits) ? 1 : 0;
            }
            return found;
        }

        private boolean isFirstOfItsLike(int r, int bits) {
            for (int earlier = 0; earlier < r; earlier++) {
                if (areAlike(earlier, r, bits)) {
                    return false;
                }
            }
            return true;
        }

        private boolean areAlike(int r, int other, int bits) {
            for (int c = 0; c < columns; c++) {
                if (isIn(c, bits) && value(r, c) != value(other, c)) {
                    return false;
                }
            }
            return true;
        }

        /** How many GROUPS these columns (bits) have by COUNTS. */
        int foretoldGroups(int bits) {
            int groups = 1;
            for (int c = 0; c < columns; c++) {
                groups *= isIn(c, bits) ? unlike[c] : 1;
            }
            return Math.min(groups, countedRows);
        }

        /** How many of m rows pass a test of column c by COUNTS. */
        int foretoldPassing(int m, int c, int from, int to) {
            if (!has(c)) {
                return 0;
            }
            int within = Math.min(to, greatest[c]) - Math.max(from, least[c]) + 1;
            if (m <= 0 || within <= 0) {
                return 0;
            }
            if (from == to) {
                return dividedUp(m, unlike[c]);
            }
            return dividedUp(m * within, greatest[c] - least[c] + 1);
        }
    }

    /** A QUESTION of a TABLE, with at most one test of each column. */
    private static final class Question {
        final Table table;
        final int wants;
        final int adds;
        final int weight;
        int tested;
        private final int[] first = new int[MOST_COLUMNS];
        private final int[] last = new int[MOST_COLUMNS];

        Question(Table table, int wants, int adds, int weight) {
            this.table = table;
            this.wants = wants;
            this.adds = adds;
            this.weight = weight;
        }

        void limit(int c, int from, int to) {
            if (isBetween(c, 0, MOST_COLUMNS - 1)) {
                tested |= bit(c);
                first[c] = from;
                last[c] = to;
            }
        }

        boolean tests(int c) {
            return c >= 0 && c < MOST_COLUMNS && (tested & (1 << c)) != 0;
        }

        boolean testsAlike(int c) {
            return tests(c) && first[c] == last[c];
        }

        boolean testsWithin(int c, int from, int to) {
            return tests(c) && first[c] >= from && last[c] <= to;
        }

        /** How many of m rows pass the test of column c by COUNTS; all without such a test. */
        int foretoldPassing(int m, int c) {
            return tests(c) ? table.foretoldPassing(m, c, first[c], last[c]) : m;
        }

        boolean passesAt(int r, int c) {
            return !tests(c) || isBetween(table.value(r, c), first[c], last[c]);
        }

        private boolean passes(int r) {
            for (int c = 0; c < MOST_COLUMNS; c++) {
                if (!passesAt(r, c)) {
                    return false;
                }
            }
            return true;
        }

        int answering() {
            int rows = 0;
            for (int r = 0; r < table.rows; r++) {
                rows += passes(r) ? 1 : 0;
            }
            return rows;
        }

        int addedUp() {
            int sum = 0;
            for (int r = 0; r < table.rows; r++) {
                sum += table.has(adds) && passes(r) ? table.value(r, adds) : 0;
            }
            return sum;
        }

        /** All columns that it wants, tests and adds up, as bits. */
        int touched() {
            return wants | tested | bit(adds);
        }
    }

    /** An AID of a TABLE. What it foretells and fetches is asked only of a question that it helps. */
    private abstract static class Aid {
        final int kind;
        final Table table;
        boolean isBuilt;

        Aid(int kind, Table table) {
            this.kind = kind;
            this.table = table;
        }

        abstract boolean helps(Question question);

        abstract int foretold(Question question);

        abstract int fetched(Question question);

        abstract int space();

        abstract int keeping();
    }

    /** What ORDER, COVERING, PART and CLUSTER share: rows found by columns in turn. */
    private abstract static class Ordered extends Aid {
        final int own;
        private final int[] by;

        Ordered(int kind, Table table, int a, int b, int c) {
            super(kind, table);
            own = bit(a) | bit(b) | bit(c);
            by = new int[] {a, b, c};
        }

        /** How many of its columns, from the first on, it USES for a question. */
        final int usedBy(Question question) {
            int used = 0;
            while (used < by.length && question.testsAlike(by[used])) {
                used++;
            }
            // What stopped the loop is not ALIKE: one such column is used, and none behind it.
            if (used < by.length && question.tests(by[used])) {
                used++;
            }
            return used;
        }

        boolean helps(Question question) {
            return usedBy(question) > 0;
        }

        /** How many rows stand in it by COUNTS. */
        int foretoldRows() {
            return table.countedRows;
        }

        /** Whether the row at place r stands in it. */
        boolean holds(int r) {
            return true;
        }

        /** Whether the rows that it finds must be fetched from the table. */
        boolean mustFetch(Question question) {
            return true;
        }

        int entriesOnPage() {
            return 2 * table.page;
        }

        int foretold(Question question) {
            int matched = foretoldRows();
            int used = usedBy(question);
            for (int i = 0; i < used && i < by.length; i++) {
                matched = question.foretoldPassing(matched, by[i]);
            }
            int fetching = mustFetch(question) ? Math.min(matched, table.countedPages()) : 0;
            return 1 + dividedUp(matched, entriesOnPage()) + fetching;
        }

        int fetched(Question question) {
            int used = usedBy(question);
            int matched = 0;
            int pages = 0;
            int latest = NONE;
            for (int r = 0; r < table.rows; r++) {
                if (holds(r) && finds(question, used, r)) {
                    matched++;
                    // Places rise, so a page that is not the latest one has not been met.
                    pages += table.pageOf(r) == latest ? 0 : 1;
                    latest = table.pageOf(r);
                }
            }
            return 1 + dividedUp(matched, entriesOnPage()) + (mustFetch(question) ? pages : 0);
        }

        private boolean finds(Question question, int used, int r) {
            for (int i = 0; i < used && i < by.length; i++) {
                if (!question.passesAt(r, by[i])) {
                    return false;
                }
            }
            return true;
        }

        int space() {
            return dividedUp(foretoldRows(), 2 * table.page);
        }
    }

    /** An ORDER of all rows. */
    private static final class Order extends Ordered {
        Order(Table table, int a, int b, int c) {
            super(ORDER, table, a, b, c);
        }

        int keeping() {
            return 2;
        }
    }

    /** An ORDER that holds further columns, so that it may spare the fetching. */
    private static final class Covering extends Ordered {
        private final int held;

        Covering(Table table, int a, int b, int c, int further) {
            super(COVERING, table, a, b, c);
            held = own | further;
        }

        boolean mustFetch(Question question) {
            return (question.touched() & ~held) != 0;
        }

        int space() {
            int beyond = Integer.bitCount(held & ~own);
            return dividedUp(table.countedRows * (1 + beyond), 2 * table.page);
        }

        int keeping() {
            return 3;
        }
    }

    /** An ORDER of those rows alone whose value in a column is from one value to another. */
    private static final class Part extends Ordered {
        private final int column;
        private final int from;
        private final int to;

        Part(Table table, int a, int b, int column, int from, int to) {
            super(PART, table, a, b, NONE);
            this.column = column;
            this.from = from;
            this.to = to;
        }

        boolean helps(Question question) {
            return question.testsWithin(column, from, to);
        }

        int foretoldRows() {
            return table.foretoldPassing(table.countedRows, column, from, to);
        }

        boolean holds(int r) {
            return isBetween(table.value(r, column), from, to);
        }

        int keeping() {
            return 1;
        }
    }

    /** An ORDER in which the rows themselves lie: it takes no room, and finding them is fetching them. */
    private static final class Cluster extends Ordered {
        Cluster(Table table, int a, int b, int c) {
            super(CLUSTER, table, a, b, c);
        }

        boolean mustFetch(Question question) {
            return false;
        }

        int entriesOnPage() {
            return table.page;
        }

        int space() {
            return 0;
        }

        int keeping() {
            return 4;
        }
    }

    /** SUMS of a column for each GROUP of like values in one or two columns. */
    private static final class Sums extends Aid {
        private final int groupedBy;
        private final int column;

        Sums(Table table, int groupedBy, int column) {
            super(SUMS, table);
            this.groupedBy = groupedBy;
            this.column = column;
        }

        boolean helps(Question question) {
            return question.wants == 0 && question.adds == column && (question.tested & ~groupedBy) == 0;
        }

        int foretold(Question question) {
            return 1 + space();
        }

        int fetched(Question question) {
            return 1 + dividedUp(table.unlikeRows(groupedBy), 2 * table.page);
        }

        int space() {
            return dividedUp(table.foretoldGroups(groupedBy), 2 * table.page);
        }

        int keeping() {
            return 2;
        }
    }

    /** Weighs SETS of aids. It is loaded before each use, because COUNTS, tests and changes move. */
    private static final class Scales {
        private int questionCount;
        private int aidCount;
        private final int[] weights = new int[MOST_QUESTIONS];
        private final int[][] costs = new int[MOST_AIDS][MOST_QUESTIONS];
        private final int[] spaces = new int[MOST_AIDS];
        private final int[] upkeep = new int[MOST_AIDS];
        private final int[] rivals = new int[MOST_AIDS];
        // Row a has each question's least cost when it is settled which aids below a are in the set.
        private final int[][] least = new int[MOST_AIDS + 1][MOST_QUESTIONS];
        private int best;
        private long bestCost;

        void load(ArrayList<Question> questions, ArrayList<Aid> aids) {
            questionCount = Math.min(questions.size(), MOST_QUESTIONS);
            aidCount = Math.min(aids.size(), MOST_AIDS);
            for (int q = 0; q < questionCount; q++) {
                weights[q] = questions.get(q).weight;
                least[0][q] = questions.get(q).table.countedPages();
            }
            for (int a = 0; a < aidCount; a++) {
                Aid aid = aids.get(a);
                spaces[a] = aid.space();
                upkeep[a] = aid.keeping() * aid.table.changing;
                rivals[a] = rivalsOf(aids, a);
                for (int q = 0; q < questionCount; q++) {
                    Question question = questions.get(q);
                    boolean helps = aid.table == question.table && aid.helps(question);
                    // PLAIN's cost stands in for an aid that does not help, since it lowers nothing.
                    costs[a][q] = helps ? aid.foretold(question) : least[0][q];
                }
            }
        }

        /** What a set costs. */
        long weigh(int set) {
            long cost = weighNothing();
            for (int a = 0; a < aidCount; a++) {
                cost -= isIn(a, set) ? savedBy(a, least[a]) : 0;
                settle(a, isIn(a, set));
            }
            return cost;
        }

        private long weighNothing() {
            long cost = 0;
            for (int q = 0; q < questionCount; q++) {
                cost += (long) weights[q] * least[0][q];
            }
            return cost;
        }

        /** What aid a saves beside a set with these least costs; its keeping is taken off. */
        private long savedBy(int a, int[] before) {
            long saved = -upkeep[a];
            for (int q = 0; q < questionCount; q++) {
                saved += (long) weights[q] * Math.max(0, before[q] - costs[a][q]);
            }
            return saved;
        }

        private void settle(int a, boolean isIncluded) {
            for (int q = 0; q < questionCount; q++) {
                least[a + 1][q] = isIncluded ? Math.min(least[a][q], costs[a][q]) : least[a][q];
            }
        }

        private boolean fits(int a, int set, int left) {
            return !isIn(a, set) && spaces[a] <= left && (rivals[a] & set) == 0;
        }

        /** THE CHOICE within a room. */
        int cheapest(int room) {
            best = 0;
            bestCost = weighNothing();
            explore(0, 0, bestCost, room);
            return best;
        }

        // The depth is a itself, which ends at the number of aids.
        private void explore(int a, int set, long cost, int left) {
            if (a >= aidCount) {
                keepIfBetter(set, cost);
                return;
            }
            long saved = fits(a, set, left) ? savedBy(a, least[a]) : 0;
            // What saves nothing beside fewer aids saves nothing beside more of them,
            // and of like costs the smaller set wins: no set with it can be the choice.
            if (saved > 0) {
                settle(a, true);
                explore(a + 1, set | bit(a), cost - saved, left - spaces[a]);
            }
            settle(a, false);
            explore(a + 1, set, cost, left);
        }

        // Sets that have the lower aid are explored first, so the last tie goes to the one that stands.
        private void keepIfBetter(int set, long cost) {
            boolean isFewer = Integer.bitCount(set) < Integer.bitCount(best);
            if (cost < bestCost || (cost == bestCost && isFewer)) {
                best = set;
                bestCost = cost;
            }
        }

        /** GREEDY's set within a room. */
        int gathered(int room) {
            int set = 0;
            int left = room;
            for (int round = 0; round < aidCount; round++) {
                int a = mostSaving(set, left);
                if (a == NONE) {
                    break;
                }
                set |= bit(a);
                left -= spaces[a];
                lower(a);
            }
            return set;
        }

        private int mostSaving(int set, int left) {
            int most = NONE;
            long mostSaved = 0;
            for (int a = 0; a < aidCount; a++) {
                long saved = fits(a, set, left) ? savedBy(a, least[0]) : 0;
                boolean isSmaller = most != NONE && saved == mostSaved && spaces[a] < spaces[most];
                if (saved > mostSaved || isSmaller) {
                    most = a;
                    mostSaved = saved;
                }
            }
            return most;
        }

        private void lower(int a) {
            for (int q = 0; q < questionCount; q++) {
                least[0][q] = Math.min(least[0][q], costs[a][q]);
            }
        }
    }
}
