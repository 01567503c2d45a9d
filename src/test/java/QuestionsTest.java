/** Promises 8, 9 and the answers of 17: questions, their tests, and which rows answer them. */
public final class QuestionsTest {
    private static final int NONE = IndexDesk.NONE;

    private QuestionsTest() {
    }

    public static void main(String[] args) {
        questionLimits();
        atMost24Questions();
        testLimits();
        aTestTakesThePlaceOfOne();
        answersAndSums();
        wrongRuns();
        Check.finish();
    }

    private static IndexDesk deskWithRows() {
        IndexDesk x = new IndexDesk();
        x.table(1, 3, 2);
        x.put(1, 1, 10, 100, 0);
        x.put(1, 2, 20, 200, 0);
        x.put(1, 2, 30, 300, 0);
        x.put(1, 3, 30, 400, 0);
        x.put(1, 3, 40, 999, 0);
        return x;
    }

    private static void questionLimits() {
        IndexDesk x = deskWithRows();
        int[][] wrong = {
            {0, 0, NONE, 1}, {-1, 0, NONE, 1}, {4, 0, NONE, 1},
            {1, 8, NONE, 1}, {1, -1, NONE, 1}, {1, Integer.MIN_VALUE, NONE, 1}, {1, 1 << 16, NONE, 1},
            {1, 0, -2, 1}, {1, 0, 3, 1}, {1, 0, NONE, 0}, {1, 0, NONE, 101}, {1, 0, NONE, -5},
        };
        for (int[] w : wrong) {
            Check.due("question(" + w[0] + ", " + w[1] + ", " + w[2] + ", " + w[3] + ")",
                x.question(w[0], w[1], w[2], w[3]), NONE);
        }
        Check.due("refused questions", x.count(1), 0);
        Check.due("wants none, adds none", x.question(1, 0, NONE, 1), 0);
        Check.due("wants all, adds the last", x.question(1, 7, 2, 100), 1);
    }

    private static void atMost24Questions() {
        IndexDesk x = deskWithRows();
        for (int q = 0; q < 24; q++) {
            Check.due("question", x.question(1, q % 8, q % 4 - 1, 1 + q), q);
        }
        Check.due("the 25th question", x.question(1, 0, NONE, 1), NONE);
        Check.due("24 questions", x.count(1), 24);
        Check.due("the 24th can be tested", x.test(23, 0, 1, 2), true);
        Check.due("the 25th can't", x.test(24, 0, 1, 2), false);
    }

    private static void testLimits() {
        IndexDesk x = deskWithRows();
        x.question(1, 0, NONE, 1);
        int[][] wrong = {
            {1, 0, 0, 0}, {-1, 0, 0, 0}, {24, 0, 0, 0}, {0, 3, 0, 0}, {0, -1, 0, 0},
            {0, 0, 3, 2}, {0, 0, -1, 2}, {0, 0, 0, 1000}, {0, 0, 1000, 1000}, {0, 0, -1, -1},
        };
        for (int[] w : wrong) {
            Check.due("test(" + w[0] + ", " + w[1] + ", " + w[2] + ", " + w[3] + ")",
                x.test(w[0], w[1], w[2], w[3]), false);
        }
        Check.due("refused tests hold nothing back", x.run(0, 0), 5);
        Check.due("test 0 to 999", x.test(0, 0, 0, 999), true);
        Check.due("all pass", x.run(0, 0), 5);
        Check.due("test 999", x.test(0, 2, 999, 999), true);
        Check.due("one passes", x.run(0, 0), 1);
    }

    private static void aTestTakesThePlaceOfOne() {
        IndexDesk x = deskWithRows();
        x.question(1, 0, 1, 1);
        x.test(0, 0, 1, 1);
        Check.due("first test", x.run(0, 1), 10);
        x.test(0, 0, 2, 3);
        Check.due("another in its place", x.run(0, 1), 120);
        Check.due("refused", x.test(0, 0, 9, 8), false);
        Check.due("the other stands", x.run(0, 1), 120);
    }

    private static void answersAndSums() {
        IndexDesk x = deskWithRows();
        x.question(1, 7, 2, 1);
        x.question(1, 7, NONE, 1);
        Check.due("all", x.run(0, 0), 5);
        Check.due("sum of all", x.run(0, 1), 1999);
        Check.due("nothing added up", x.run(1, 1), 0);
        x.test(0, 0, 2, 3);
        x.test(0, 1, 30, 30);
        Check.due("both tests", x.run(0, 0), 2);
        Check.due("their sum", x.run(0, 1), 700);
        Check.due("other question", x.run(1, 0), 5);
        x.put(1, 3, 30, 7, 0);
        Check.due("a row more", x.run(0, 1), 707);
        x.strike(1, 2);
        Check.due("a row less", x.run(0, 1), 407);
        x.test(0, 2, 500, 600);
        Check.due("none", x.run(0, 0), 0);
        Check.due("sum of none", x.run(0, 1), 0);
    }

    private static void wrongRuns() {
        IndexDesk x = deskWithRows();
        x.question(1, 0, NONE, 1);
        Check.due("run(0, 4)", x.run(0, 4), NONE);
        Check.due("run(0, -1)", x.run(0, -1), NONE);
        for (int what = -1; what < 5; what++) {
            Check.due("run(1, " + what + ")", x.run(1, what), NONE);
            Check.due("run(-1, " + what + ")", x.run(-1, what), NONE);
        }
    }
}
