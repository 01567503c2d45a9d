/** Part 3 of "Terms": the choice, greedy, what aids are worth, runs, each sentence at its boundaries. */
public final class TermsThreeTest {
    private static final int NONE = Desks.NONE;

    private TermsThreeTest() {
    }

    public static void main(String[] args) {
        choiceWithinARoom();
        choiceOfFewerAids();
        choiceOfTheLowestNumber();
        choiceHasOneClusterATable();
        greedyFits();
        greedyTies();
        greedyEnds();
        alone();
        worth();
        runOfPlain();
        runOfMatched();
        runOfPart();
        runOfUnlikePages();
        runOfGroups();
        runByItsPlan();
        Check.finish();
    }

    /** Each table t has 20 rows, a question of its own and aid t: an ORDER (5 pages) that saves 7 times the weight. */
    private static IndexDesk orders(int... weights) {
        IndexDesk x = new IndexDesk();
        for (int t = 0; t < weights.length; t++) {
            Desks.count(x, t, 2, 2, 20);
            Desks.by(x, t, 0, 0, 0);
            x.test(x.question(t, 3, NONE, weights[t]), 0, 0, 0);
        }
        return x;
    }

    private static void dueBoth(IndexDesk x, int room, int set) {
        Check.due(Desks.said("choose", room), x.choose(room), set);
        Check.due(Desks.said("greedy", room), x.greedy(room), set);
    }

    // ---- the choice ----

    private static void choiceWithinARoom() {
        Check.sentence("THE CHOICE within a ROOM: of all SETS whose ROOM is not above it that which costs least,");
        IndexDesk x = orders(1, 2, 3, 4);
        int[][] due = {{0, 0}, {4, 0}, {5, 8}, {9, 8}, {10, 12}, {14, 12}, {15, 14}, {19, 14}, {20, 15}, {10000, 15}};
        for (int[] d : due) {
            Check.due(Desks.said("choose", d[0]), x.choose(d[0]), d[1]);
        }
        IndexDesk none = new IndexDesk();
        Check.due("of no aids", none.choose(0), 0);
        Check.due("of no aids, in much room", none.choose(10000), 0);
        IndexDesk twelve = new IndexDesk();
        Desks.count(twelve, 0, 4, 2, 60);
        for (int a = 0; a < 12; a++) {
            twelve.part(0, 0, NONE, 1, 4 * a, 4 * a + 3);
            Desks.ask(twelve, 0, 1, 4 * a, 4 * a + 3);
        }
        Check.due("all twelve", twelve.choose(12), 4095);
        Check.due("the last does not fit", twelve.choose(11), 2047);
        costsDecideNotSavingsByThemselves();
    }

    private static void costsDecideNotSavingsByThemselves() {
        IndexDesk x = Desks.counting(2, 2, 40);
        Desks.count(x, 1, 2, 2, 20);
        Desks.by(x, 0, 0, 0, 0);
        Desks.by(x, 0, 1, 0, 2);
        Desks.by(x, 1, 0, 0, 0);
        x.test(x.question(0, 3, NONE, 10), 0, 0, 0);
        x.test(x.question(1, 3, NONE, 2), 0, 0, 0);
        // 0 and 1 save 170 and 180 by the same question, 2 saves 14: 1 takes 20 pages, 0 and 2 take 15.
        Check.due("15 pages", x.choose(15), 1 | 4);
        Check.due("24 pages", x.choose(24), 1 | 4);
        Check.due("25 pages", x.choose(25), 2 | 4);
    }

    private static void choiceOfFewerAids() {
        Check.sentence("of like ones that with fewer AIDS,");
        IndexDesk x = orders(4, 4);
        Desks.count(x, 2, 2, 2, 20);
        Desks.by(x, 2, 1, 0, 2);
        x.test(x.question(2, 3, NONE, 7), 0, 0, 0);
        // 4 * 7 and 4 * 7 in 5 pages each; 7 * 8 in 10 pages.
        Check.due("one for two", x.choose(10), 4);
        Check.due("all", x.choose(20), 7);
        IndexDesk idle = orders(1);
        Desks.by(idle, 0, 0, 1, 0);
        Desks.by(idle, 0, 4, 1, 0);
        Check.due("those that save nothing are left out", idle.choose(10000), 1);
        IndexDesk even = orders(2, 1);
        even.changes(0, 7);
        Check.due("it saves 14 and keeps 14", even.look(0, 4), 0);
        Check.due("what saves 0 is left out", even.choose(10000), 2);
        even.changes(1, 3);
        Check.due("it saves 1", even.look(1, 4), 1);
        Check.due("what saves 1 is not", even.choose(10000), 2);
        even.changes(1, 4);
        Check.due("what saves -1 is", even.choose(10000), 0);
    }

    private static void choiceOfTheLowestNumber() {
        Check.sentence("of like ones that which has the AID of the lowest number in which two differ.");
        IndexDesk four = orders(1, 1, 1, 1);
        Check.due("of four like ones", four.choose(5), 1);
        Check.due("two of four", four.choose(10), 3);
        Check.due("three of four", four.choose(15), 7);
        IndexDesk same = Desks.counting(1, 2, 20);
        for (int a = 0; a < 12; a++) {
            Desks.by(same, 0, a < 10 ? 0 : 4, 0, 0);
        }
        Desks.ask(same, 0, 0, 0, 0);
        Check.due("clusters 10 and 11 are like", same.choose(0), 1 << 10);
        Check.due("a lower number does not save as much", same.choose(10000), 1 << 10);
        pairsOfLikeSum();
    }

    private static void pairsOfLikeSum() {
        IndexDesk x = new IndexDesk();
        for (int t = 0; t < 4; t++) {
            Desks.count(x, t, 2, 2, 20);
            // Tables 0 and 3 get an ORDER (5 pages), 1 and 2 a COVERING (10 pages).
            Desks.by(x, t, t == 0 || t == 3 ? 0 : 1, 0, 2);
        }
        int[] weights = {16, 14, 7, 8};
        for (int t = 0; t < 4; t++) {
            x.test(x.question(t, 3, NONE, weights[t]), 0, 0, 0);
        }
        int[] saved = {112, 112, 56, 56};
        for (int a = 0; a < 4; a++) {
            Check.due("saved by " + a, x.look(a, 4), saved[a]);
        }
        // In 15 pages {0, 1} saves 224; {0, 2}, {0, 3}, {1, 3} save 168.
        Check.due("15 pages", x.choose(15), 1 | 2);
        x.changes(0, 28);
        // Now 0 saves 56: {0, 1} and {1, 3} save 168, {0, 2} and {0, 3} 112, in 15 pages at most.
        Check.due("0 and 1, not 1 and 3", x.choose(15), 1 | 2);
        Check.due("1 alone, not 0 and 3", x.choose(10), 2);
        x.changes(1, 20);
        // Now 1 saves 52: {0, 3} saves 112, as {0, 2} does; {2, 3} does too.
        Check.due("0 and 2, not 0 and 3, nor 2 and 3", x.choose(15), 1 | 4);
        Check.due("0 and 3 fit in less", x.choose(10), 1 | 8);
    }

    private static void choiceHasOneClusterATable() {
        Check.sentence("A SET of AIDS (at most one CLUSTER a TABLE)");
        IndexDesk x = Desks.counting(2, 2, 20);
        Desks.count(x, 1, 1, 2, 20);
        Desks.by(x, 0, 4, 0, 0);
        Desks.by(x, 0, 4, 1, 0);
        Desks.by(x, 1, 4, 0, 0);
        x.test(x.question(0, 3, NONE, 1), 0, 0, 0);
        x.test(x.question(0, 3, NONE, 2), 1, 0, 0);
        x.test(x.question(1, 1, NONE, 1), 0, 0, 0);
        dueBoth(x, 0, 2 | 4);
        x.build(0, true);
        dueBoth(x, 0, 2 | 4);
        Desks.by(x, 0, 0, 0, 0);
        dueBoth(x, 4, 2 | 4);
        dueBoth(x, 5, 2 | 4 | 8);
    }

    // ---- greedy ----

    private static void greedyFits() {
        Check.sentence("GREEDY: from nothing on, again and again the AID that fits (ROOM, CLUSTER) and saves most:");
        IndexDesk x = orders(1, 2, 3, 4);
        int[][] due = {{0, 0}, {4, 0}, {5, 8}, {9, 8}, {10, 12}, {15, 14}, {19, 14}, {20, 15}, {10000, 15}};
        for (int[] d : due) {
            Check.due(Desks.said("greedy", d[0]), x.greedy(d[0]), d[1]);
        }
        x.build(0, true);
        Check.due("from nothing on, whatever is built", x.greedy(5), 8);
        Check.due("of no aids", new IndexDesk().greedy(0), 0);
        IndexDesk y = orders(5, 5);
        Desks.count(y, 2, 2, 2, 40);
        Desks.by(y, 2, 0, 0, 0);
        y.test(y.question(2, 3, NONE, 3), 0, 0, 0);
        // 35 and 35 in 5 pages each; 3 * 17 in 10 pages.
        Check.due("51 first, and it is full", y.greedy(10), 4);
        Check.due("51 first, none else fits", y.greedy(14), 4);
        Check.due("51, 35", y.greedy(15), 5);
        Check.due("what does not fit stops none", y.greedy(9), 1);
    }

    private static void greedyTies() {
        Check.sentence("of like savings the one of less ROOM, then the lowest number;");
        IndexDesk same = Desks.counting(2, 2, 20);
        same.order(0, 1, 0, NONE, NONE, 2);
        same.order(0, 4, 0, NONE, NONE, 0);
        same.order(0, 4, 0, 1, NONE, 0);
        same.test(same.question(0, 3, NONE, 1), 0, 0, 0);
        Check.due("like savings: 10 pages or none", same.greedy(10000), 2);
        Check.due("the choice looks at numbers alone", same.choose(10000), 1);
        IndexDesk four = orders(1, 1, 1, 1);
        Check.due("the lowest of four", four.greedy(5), 1);
        Check.due("the two lowest", four.greedy(10), 3);
        Check.due("the three lowest", four.greedy(15), 7);
        lessRoomAmongThree();
    }

    private static void lessRoomAmongThree() {
        IndexDesk x = new IndexDesk();
        for (int t = 0; t < 3; t++) {
            Desks.count(x, t, 3, 2, 20);
        }
        // All save 8 times 7: COVERING of 15, of 10 and again of 10 pages.
        x.order(0, 1, 0, NONE, NONE, 6);
        x.order(1, 1, 0, NONE, NONE, 2);
        x.order(2, 1, 0, NONE, NONE, 2);
        for (int t = 0; t < 3; t++) {
            x.test(x.question(t, 3, NONE, 7), 0, 0, 0);
        }
        Check.due("less room first", x.greedy(15), 2);
        Check.due("then the lower number of like rooms", x.greedy(20), 6);
        Check.due("then the last", x.greedy(35), 7);
        Check.due("it does not fit", x.greedy(34), 6);
    }

    private static void greedyEnds() {
        Check.sentence("till none saves above 0.");
        IndexDesk x = orders(2, 1);
        x.changes(0, 7);
        x.changes(1, 3);
        Check.due("0 saves just 0", x.look(0, 4), 0);
        Check.due("1 saves just 1", x.look(1, 4), 1);
        Check.due("0 is not taken, 1 is", x.greedy(10000), 2);
        x.changes(1, 4);
        Check.due("1 saves -1", x.look(1, 4), -1);
        Check.due("none is taken", x.greedy(10000), 0);
        IndexDesk two = Desks.counting(2, 2, 20);
        Desks.by(two, 0, 0, 0, 0);
        two.order(0, 0, 0, 1, NONE, 0);
        Desks.by(two, 0, 4, 0, 0);
        two.test(two.question(0, 3, NONE, 1), 0, 0, 0);
        Check.due("behind the cluster the orders save 0", two.greedy(10000), 4);
        two.test(two.question(0, 3, NONE, 1), 1, 0, 0);
        Check.due("none helps the other question", two.greedy(10000), 4);
        Desks.by(two, 0, 0, 1, 0);
        Check.due("this one does", two.greedy(10000), 4 | 8);
        Check.due("it does not fit", two.greedy(4), 4);
    }

    // ---- alone and worth ----

    private static void alone() {
        Check.sentence("ALONE: what an AID saves by itself (nothing else BUILT);");
        IndexDesk x = Desks.counting(1, 2, 20);
        Desks.by(x, 0, 0, 0, 0);
        Desks.by(x, 0, 4, 0, 0);
        Check.due("of no question", x.look(0, 4), 0);
        x.changes(0, 1);
        Check.due("only its keeping", x.look(0, 4), -2);
        int part = x.part(0, 0, NONE, 0, 0, 0);
        Check.due("-1, and that is no refusal", x.look(part, 4), -1);
        x.changes(0, 0);
        Desks.ask(x, 0, 0, 4, 4);
        for (int built = 0; built < 3; built++) {
            Check.due("the order", x.look(0, 4), 7);
            Check.due("the cluster", x.look(1, 4), 8);
            x.build(built, true);
        }
        Check.due("with all built", x.look(0, 4), 7);
        x.changes(0, 1000);
        Check.due("the dearest keeping", x.look(1, 4), 8 - 4000);
    }

    private static void worth() {
        Check.sentence("WORTH: what the BUILT SET costs without it, less what it costs with it.");
        IndexDesk x = Desks.counting(1, 2, 20);
        Desks.by(x, 0, 0, 0, 0);
        Desks.by(x, 0, 4, 0, 0);
        x.part(0, 0, NONE, 0, 0, 0);
        Desks.ask(x, 0, 0, 4, 4);
        Check.due("not built", x.look(0, 5), NONE);
        x.build(0, true);
        Check.due("the only one", x.look(0, 5), 7);
        Check.due("the cluster is not built", x.look(1, 5), NONE);
        x.build(1, true);
        Check.due("nothing beside the cluster", x.look(0, 5), 0);
        Check.due("one beside the order", x.look(1, 5), 1);
        x.build(2, true);
        Check.due("the part helps nothing", x.look(2, 5), 0);
        x.changes(0, 1);
        Check.due("-1, though it is built", x.look(2, 5), -1);
        Check.due("below 0", x.look(0, 5), -2);
        Check.due("below 0, too", x.look(1, 5), 1 - 4);
        x.build(1, false);
        Check.due("no longer built", x.look(1, 5), NONE);
        Check.due("the order alone again", x.look(0, 5), 7 - 2);
    }

    // ---- runs ----

    private static void runOfPlain() {
        Check.sentence("PLAIN: the TABLE's pages;");
        IndexDesk x = new IndexDesk();
        x.table(0, 1, 4);
        int q = Desks.ask(x, 0, 0, 999, 999);
        Check.due("no rows", x.run(q, 2), 0);
        for (int rows = 1; rows <= 9; rows++) {
            x.put(0, 0, 0, 0, 0);
            Check.due(rows + " rows now", x.run(q, 2), Desks.up(rows, 4));
            Check.due("foretold of none", x.run(q, 3), 0);
        }
        x.recount(0);
        for (int rows = 8; rows >= 0; rows--) {
            x.strike(0, 0);
            Check.due(rows + " left", x.run(q, 2), Desks.up(rows, 4));
            Check.due("foretold of 9", x.run(q, 3), 3);
        }
    }

    /** 40 unlike values by PAGE 2; then so many further rows that have 7, and 7 is asked for. */
    private static IndexDesk sevens(int kind, int further) {
        IndexDesk x = Desks.counting(2, 2, 40);
        Desks.by(x, 0, kind, 0, 2);
        x.build(0, true);
        x.test(x.question(0, 3, NONE, 1), 0, 7, 7);
        for (int i = 0; i < further; i++) {
            x.put(0, 7, 7, 0, 0);
        }
        return x;
    }

    private static void runOfMatched() {
        Check.sentence("A RUN of a QUESTION: FETCHED are the pages by its PLAN as ROWS are now:"
            + " for UNLIKE, LEAST, what passes, the true ones:");
        // 1 and further rows matched: 4 entries on a page of the order, 2 rows on one of the cluster.
        for (int further : new int[] {0, 1, 2, 3, 4, 7, 8, 20}) {
            int matched = 1 + further;
            int pages = 1 + Desks.up(further, 2);
            String with = " with " + further + " more";
            Check.due("order" + with, sevens(0, further).run(0, 2), 1 + Desks.up(matched, 4) + pages);
            Check.due("covering" + with, sevens(1, further).run(0, 2), 1 + Desks.up(matched, 4));
            Check.due("cluster" + with, sevens(4, further).run(0, 2), 1 + Desks.up(matched, 2));
            Check.due("foretold stays" + with, sevens(4, further).run(0, 3), 1 + 1);
        }
        for (int kind : new int[] {0, 1, 4}) {
            IndexDesk x = sevens(kind, 0);
            x.strike(0, 7);
            Check.due("none is matched", x.run(0, 2), 1);
            Check.due("one was foretold", x.run(0, 3), kind == 0 ? 3 : 2);
            x.test(0, 0, 999, 999);
            x.put(0, 999, 0, 0, 0);
            Check.due("none was foretold", x.run(0, 3), 1);
            Check.due("one beyond GREATEST is matched", x.run(0, 2), kind == 0 ? 3 : 2);
            for (int left = 40; left > 0; left--) {
                x.strike(0, 0);
            }
            Check.due("no rows are left", x.run(0, 2), 1);
        }
    }

    private static void runOfPart() {
        Check.sentence("MATCHED: the ROWS that pass what is USED (PART: and its test);");
        IndexDesk x = Desks.counting(2, 2, 40);
        x.part(0, 0, NONE, 1, 10, 20);
        x.build(0, true);
        int q = Desks.ask(x, 0, 1, 20, 20);
        x.test(q, 0, 12, 15);
        Check.due("it is the plan", x.plan(q), 0);
        Check.due("used: 12 to 15, on two pages", x.run(q, 2), 1 + 1 + 2);
        Check.due("none of them answers", x.run(q, 0), 0);
        int[][] rows = {{11, 15}, {16, 15}, {12, 9}, {15, 21}};
        for (int[] row : rows) {
            Desks.put(x, 0, row);
            Check.due("a row beyond one of both", x.run(q, 2), 1 + 1 + 2);
        }
        Desks.put(x, 0, 12, 10);
        Check.due("a row within both", x.run(q, 2), 1 + 2 + 3);
        Desks.put(x, 0, 15, 20);
        Check.due("a row at the other ends, on that page", x.run(q, 2), 1 + 2 + 3);
        IndexDesk used = Desks.counting(2, 2, 40);
        Desks.by(used, 0, 0, 0, 0);
        used.build(0, true);
        int other = Desks.ask(used, 0, 0, 3, 3);
        used.test(other, 1, 39, 39);
        Check.due("a test that is not used holds none back", used.run(other, 2), 1 + 1 + 1);
        Check.due("though none answers", used.run(other, 0), 0);
        runOfWhatIsUsedAlone();
    }

    /** An ORDER by 0, 1, 2 of 40 rows on 20 pages; the tests behind a gap or a range would pass nothing. */
    private static void runOfWhatIsUsedAlone() {
        // from and to for each column (from above to: no test), then the places that match.
        int[][] cases = {
            {3, 4, 999, 999, 999, 999, 2}, {3, 3, 3, 4, 999, 999, 1}, {3, 3, 1, 0, 999, 999, 1}, {3, 4, 1, 0, 999, 999, 2},
            {3, 3, 999, 999, 3, 3, 0}, {3, 3, 3, 3, 999, 999, 0}, {3, 3, 4, 5, 3, 3, 0}, {3, 3, 3, 3, 2, 3, 1},
        };
        for (int[] c : cases) {
            IndexDesk x = Desks.counting(3, 3, 40);
            x.build(x.order(0, 0, 0, 1, 2, 0), true);
            int q = x.question(0, 7, NONE, 1);
            for (int column = 0; column < 3; column++) {
                x.test(q, column, c[2 * column], c[2 * column + 1]);
            }
            Check.due("it is the plan", x.plan(q), 0);
            int due = c[6] == 0 ? 1 : 1 + 1 + 1;
            Check.due(Desks.said("fetched", c), x.run(q, 2), due);
        }
    }

    private static void runOfUnlikePages() {
        Check.sentence("ORDER's fetching: unlike pages on which these ROWS lie;");
        IndexDesk x = new IndexDesk();
        x.table(0, 1, 4);
        // 1 at places 0, 3, 4, 7, 11 of 40: pages 0, 0, 1, 1, 2.
        for (int r = 0; r < 40; r++) {
            boolean isOne = r == 0 || r == 3 || r == 4 || r == 7 || r == 11;
            x.put(0, isOne ? 1 : 100 + r, 0, 0, 0);
        }
        x.recount(0);
        x.build(Desks.by(x, 0, 0, 0, 0), true);
        int q = Desks.ask(x, 0, 0, 1, 1);
        Check.due("three pages of five rows", x.run(q, 2), 1 + 1 + 3);
        x.strike(0, 0);
        Check.due("places 2, 3, 6, 10: three pages", x.run(q, 2), 1 + 1 + 3);
        x.strike(0, 0);
        x.strike(0, 0);
        Check.due("places 0, 1, 4, 8: three pages", x.run(q, 2), 1 + 1 + 3);
        x.strike(0, 2);
        Check.due("places 0, 1, 3, 7: two pages", x.run(q, 2), 1 + 1 + 2);
        IndexDesk all = Desks.of(2, new int[] {1}, new int[] {1}, new int[] {2}, new int[] {3}, new int[] {4}, new int[] {5},
            new int[] {6}, new int[] {7}, new int[] {8}, new int[] {9});
        all.build(Desks.by(all, 0, 0, 0, 0), true);
        int a = Desks.ask(all, 0, 0, 1, 1);
        Check.due("foretold: two rows, two pages", all.run(a, 3), 1 + 1 + 2);
        Check.due("truly on one page", all.run(a, 2), 1 + 1 + 1);
    }

    private static void runOfGroups() {
        Check.sentence("GROUPS: unlike rows of values in its COLUMNS.");
        IndexDesk x = new IndexDesk();
        x.table(0, 3, 2);
        for (int r = 0; r < 40; r++) {
            x.put(0, r % 2, r % 2, r, 0);
        }
        x.recount(0);
        x.sums(0, 3, 2);
        x.build(0, true);
        int q = x.question(0, 0, 2, 1);
        x.test(q, 0, 1, 1);
        Check.due("4 by counts", x.run(q, 3), 1 + 1);
        Check.due("2 truly", x.run(q, 2), 1 + 1);
        int[][] rows = {{0, 1}, {1, 0}, {1, 0}, {2, 0}, {2, 0}};
        int[] due = {3, 4, 4, 5, 5};
        for (int i = 0; i < rows.length; i++) {
            x.put(0, rows[i][0], rows[i][1], i, 0);
            Check.due(due[i] + " groups", x.run(q, 2), 1 + Desks.up(due[i], 4));
        }
        Check.due("4 by counts still", x.run(q, 3), 1 + 1);
        for (int left = 45; left > 0; left--) {
            x.strike(0, 0);
        }
        Check.due("no groups", x.run(q, 2), 1);
        for (int page = 2; page <= 8; page++) {
            IndexDesk y = new IndexDesk();
            y.table(0, 1, page);
            for (int r = 0; r < 40; r++) {
                y.put(0, 0, 0, 0, 0);
            }
            y.recount(0);
            y.build(y.sums(0, 1, 0), true);
            y.question(0, 0, 0, 1);
            for (int groups = 2; groups <= 2 * page + 1; groups++) {
                y.put(0, groups, 0, 0, 0);
                Check.due(groups + " groups by " + page, y.run(0, 2), groups > 2 * page ? 3 : 2);
            }
        }
    }

    private static void runByItsPlan() {
        Check.sentence("FETCHED are the pages by its PLAN as ROWS are now");
        IndexDesk x = Desks.counting(1, 2, 20);
        Desks.by(x, 0, 0, 0, 0);
        int q = Desks.ask(x, 0, 0, 4, 4);
        Check.due("not built: by PLAIN", x.run(q, 2), 10);
        x.build(0, true);
        Check.due("built", x.run(q, 2), 3);
        for (int i = 0; i < 20; i++) {
            x.put(0, 4, 0, 0, 0);
        }
        // 21 rows of 4 on 11 pages, and 6 of the order: nearly as many as PLAIN's 20 now; the plan is by counts.
        Check.due("by the plan that counts made", x.run(q, 2), 1 + 6 + 11);
        x.recount(0);
        Check.due("40 / 20 rows", x.run(q, 3), 1 + 1 + 2);
        x.test(q, 0, 0, 19);
        Check.due("PLAIN by counts", x.run(q, 3), 20);
        Check.due("PLAIN's pages", x.run(q, 2), 20);
    }
}
