/** Promises 18 to 22: what sets cost, their room, what is built, the choice, and greedy. */
public final class SetsTest {
    private static final int NONE = IndexDesk.NONE;

    private SetsTest() {
    }

    public static void main(String[] args) {
        wrongSets();
        totalsAndRooms();
        roomLimits();
        choiceBeatsGreedy();
        choiceTies();
        greedyTies();
        clustersExcludeOneAnother();
        nothingIsBuilt();
        Check.finish();
    }

    /** Table t with n unlike values in column 0, the same in column 1, page 2, recounted. */
    private static void fill(IndexDesk x, int t, int n) {
        x.table(t, 2, 2);
        for (int r = 0; r < n; r++) {
            x.put(t, r, r, 0, 0);
        }
        x.recount(t);
    }

    private static int ask(IndexDesk x, int t, int c, int to, int weight) {
        int q = x.question(t, 3, NONE, weight);
        x.test(q, c, 0, to);
        return q;
    }

    private static void wrongSets() {
        IndexDesk x = new IndexDesk();
        fill(x, 0, 8);
        fill(x, 1, 8);
        x.order(0, 4, 0, NONE, NONE, 0);
        x.order(1, 4, 0, NONE, NONE, 0);
        x.order(0, 4, 1, NONE, NONE, 0);
        int[] wrong = {5, 7, 8, 9, 16, 1 << 12, 1 << 31, -1, Integer.MAX_VALUE};
        for (int set : wrong) {
            Check.due("total(" + set + ")", x.total(set), NONE);
            Check.due("room(" + set + ")", x.room(set), NONE);
        }
        int[] right = {0, 1, 2, 3, 4, 6};
        for (int set : right) {
            Check.due("total(" + set + ")", x.total(set), 0);
            Check.due("room(" + set + ")", x.room(set), 0);
        }
    }

    private static void totalsAndRooms() {
        IndexDesk x = new IndexDesk();
        fill(x, 0, 20);
        fill(x, 1, 40);
        x.order(0, 0, 0, NONE, NONE, 0);
        x.order(0, 0, 1, NONE, NONE, 0);
        x.order(1, 1, 0, NONE, NONE, 2);
        ask(x, 0, 0, 0, 7);
        ask(x, 1, 0, 3, 5);
        Check.due("plain: 7 * 10 + 5 * 20", x.total(0), 170);
        Check.due("7 * 3 + 5 * 20", x.total(1), 121);
        Check.due("one that helps nothing", x.total(2), 170);
        Check.due("7 * 10 + 5 * 2", x.total(4), 80);
        Check.due("both", x.total(5), 31);
        x.changes(0, 2);
        x.changes(1, 3);
        Check.due("no keeping of nothing", x.total(0), 170);
        Check.due("with keeping", x.total(5), 31 + 4 + 9);
        Check.due("with all keeping", x.total(7), 31 + 8 + 9);
        Check.due("room 0", x.room(0), 0);
        Check.due("room 1", x.room(1), 5);
        Check.due("room 4", x.room(4), 20);
        Check.due("room 7", x.room(7), 30);
    }

    private static void roomLimits() {
        IndexDesk x = new IndexDesk();
        fill(x, 0, 20);
        x.order(0, 0, 0, NONE, NONE, 0);
        ask(x, 0, 0, 0, 1);
        int[] wrong = {-1, 10001, Integer.MAX_VALUE, Integer.MIN_VALUE};
        for (int room : wrong) {
            Check.due("choose(" + room + ")", x.choose(room), NONE);
            Check.due("greedy(" + room + ")", x.greedy(room), NONE);
        }
        Check.due("choose(4)", x.choose(4), 0);
        Check.due("greedy(4)", x.greedy(4), 0);
        Check.due("choose(5)", x.choose(5), 1);
        Check.due("greedy(5)", x.greedy(5), 1);
        Check.due("choose(0)", x.choose(0), 0);
        Check.due("choose(10000)", x.choose(10000), 1);
        Check.due("greedy(10000)", x.greedy(10000), 1);
    }

    private static void choiceBeatsGreedy() {
        IndexDesk x = new IndexDesk();
        fill(x, 0, 40);
        fill(x, 1, 20);
        fill(x, 2, 20);
        x.order(0, 0, 0, NONE, NONE, 0);
        x.order(1, 0, 0, NONE, NONE, 0);
        x.order(2, 0, 0, NONE, NONE, 0);
        ask(x, 0, 0, 0, 5);
        ask(x, 1, 0, 0, 10);
        ask(x, 2, 0, 0, 10);
        // They save 5 * 17, 10 * 7 and 10 * 7, and take 10, 5 and 5 pages.
        Check.due("greedy(10)", x.greedy(10), 1);
        Check.due("choose(10)", x.choose(10), 6);
        Check.due("greedy(15)", x.greedy(15), 3);
        Check.due("choose(15)", x.choose(15), 3);
        Check.due("choose(9)", x.choose(9), 2);
        Check.due("greedy(20)", x.greedy(20), 7);
        Check.due("choose(20)", x.choose(20), 7);
    }

    private static void choiceTies() {
        IndexDesk x = new IndexDesk();
        fill(x, 0, 20);
        fill(x, 1, 20);
        x.order(0, 0, 1, NONE, NONE, 0);
        x.order(0, 0, 0, 1, NONE, 0);
        x.order(0, 0, 0, NONE, NONE, 0);
        x.order(1, 0, 0, NONE, NONE, 0);
        ask(x, 0, 0, 0, 10);
        ask(x, 1, 0, 0, 10);
        Check.due("like ones: the lowest number", x.choose(5), 2);
        Check.due("fewer of like costs", x.choose(100), 10);
        x.changes(1, 35);
        Check.due("what saves just 0 is left out", x.choose(100), 2);
        x.changes(1, 34);
        Check.due("what saves 2 is not", x.choose(100), 10);
        fewerGoesBeforeLowest();
        lowestInWhichTwoDiffer();
    }

    private static void fewerGoesBeforeLowest() {
        IndexDesk x = new IndexDesk();
        fill(x, 0, 20);
        fill(x, 1, 20);
        fill(x, 2, 20);
        x.order(0, 0, 0, NONE, NONE, 0);
        x.order(1, 0, 0, NONE, NONE, 0);
        x.order(2, 1, 0, NONE, NONE, 2);
        ask(x, 0, 0, 0, 4);
        ask(x, 1, 0, 0, 4);
        ask(x, 2, 0, 0, 7);
        // 4 * 7 and 4 * 7 by two of 5 pages, 7 * 8 by one of 10 pages.
        Check.due("saves", x.look(2, 4), 56);
        Check.due("one aid for two", x.choose(10), 4);
    }

    private static void lowestInWhichTwoDiffer() {
        IndexDesk x = new IndexDesk();
        for (int t = 0; t < 4; t++) {
            fill(x, t, 20);
            ask(x, t, 0, 0, t == 0 || t == 3 ? 2 : 3);
        }
        x.order(0, 0, 0, NONE, NONE, 0);
        x.order(1, 1, 0, NONE, NONE, 2);
        x.order(2, 1, 0, NONE, NONE, 2);
        x.order(3, 0, 0, NONE, NONE, 0);
        x.question(3, 0, NONE, 10);
        // Savings 14, 24, 24, 14; rooms 5, 10, 10, 5.
        Check.due("of two like ones", x.choose(10), 1 | 8);
        Check.due("0 and 1, not 1 and 3", x.choose(15), 1 | 2);
        Check.due("three", x.choose(20), 1 | 2 | 8);
        Check.due("greedy likewise", x.greedy(15), 1 | 2);
    }

    private static void greedyTies() {
        IndexDesk x = new IndexDesk();
        fill(x, 0, 20);
        fill(x, 1, 20);
        fill(x, 2, 20);
        x.order(0, 0, 0, NONE, NONE, 0);
        x.part(1, 0, NONE, 1, 0, 1);
        x.part(2, 0, NONE, 1, 0, 1);
        ask(x, 0, 0, 0, 10);
        ask(x, 1, 1, 0, 10);
        ask(x, 2, 1, 0, 10);
        Check.due("0 saves", x.look(0, 4), 70);
        Check.due("1 saves", x.look(1, 4), 60);
        Check.due("2 saves", x.look(2, 4), 60);
        Check.due("rooms", x.room(6), 2);
        Check.due("most first, then it is full", x.greedy(5), 1);
        Check.due("of like ones the lowest number", x.greedy(1), 2);
        Check.due("both of like ones", x.greedy(2), 6);
        Check.due("most, then the lowest number", x.greedy(6), 3);
        lessRoomOfLikeSavings();
        roundsTakeWhatIsSavedAlready();
    }

    private static void lessRoomOfLikeSavings() {
        IndexDesk x = new IndexDesk();
        fill(x, 0, 20);
        fill(x, 1, 20);
        x.order(0, 1, 0, NONE, NONE, 2);
        x.order(0, 4, 0, NONE, NONE, 0);
        x.order(1, 0, 0, NONE, NONE, 0);
        x.order(1, 0, 0, 1, NONE, 0);
        ask(x, 0, 0, 0, 10);
        ask(x, 1, 0, 0, 5);
        Check.due("covering saves", x.look(0, 4), 80);
        Check.due("cluster saves", x.look(1, 4), 80);
        Check.due("less room, though a higher number", x.greedy(100), 2 | 4);
        Check.due("the choice takes the lower number", x.choose(100), 1 | 4);
    }

    private static void roundsTakeWhatIsSavedAlready() {
        IndexDesk x = new IndexDesk();
        fill(x, 0, 40);
        x.order(0, 0, 0, NONE, NONE, 0);
        x.order(0, 1, 0, NONE, NONE, 2);
        x.order(0, 0, 1, NONE, NONE, 0);
        ask(x, 0, 0, 0, 10);
        ask(x, 0, 1, 0, 1);
        // 0 saves 170, 1 saves 180 and leaves nothing for 0; 2 saves 17 beside it.
        Check.due("greedy", x.greedy(10000), 2 | 4);
        x.changes(0, 8);
        Check.due("156 before 154, then 1", x.greedy(10000), 2 | 4);
        x.changes(0, 9);
        Check.due("153 before 152, then none", x.greedy(10000), 2);
        x.changes(0, 10);
        Check.due("150 both: the one of less room", x.greedy(10000), 1);
        x.changes(0, 11);
        Check.due("148 before 147", x.greedy(10000), 1);
        x.changes(0, 1000);
        Check.due("none saves", x.greedy(10000), 0);
    }

    private static void clustersExcludeOneAnother() {
        IndexDesk x = new IndexDesk();
        fill(x, 0, 40);
        fill(x, 1, 40);
        x.order(0, 4, 0, NONE, NONE, 0);
        x.order(0, 4, 1, NONE, NONE, 0);
        x.order(1, 4, 1, NONE, NONE, 0);
        ask(x, 0, 0, 0, 1);
        ask(x, 0, 1, 0, 2);
        ask(x, 1, 1, 0, 1);
        Check.due("greedy", x.greedy(0), 6);
        Check.due("choose", x.choose(0), 6);
        x.build(0, true);
        Check.due("what is built is not looked at: greedy", x.greedy(0), 6);
        Check.due("what is built is not looked at: choose", x.choose(0), 6);
    }

    private static void nothingIsBuilt() {
        IndexDesk x = new IndexDesk();
        fill(x, 0, 20);
        x.order(0, 0, 0, NONE, NONE, 0);
        x.order(0, 0, 1, NONE, NONE, 0);
        ask(x, 0, 0, 0, 10);
        x.build(1, true);
        Check.due("choose", x.choose(10), 1);
        Check.due("greedy", x.greedy(10), 1);
        Check.due("total", x.total(1), 30);
        Check.due("built", x.built(), 2);
        Check.due("plan", x.plan(0), NONE);
    }
}
