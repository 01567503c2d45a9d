import java.util.Arrays;

/** A desk and the Model beside it: each call is made of both, and their answers are held against each other. */
final class Pair {
    static final String[] NAMES = {
        "table", "put", "strike", "recount", "counts", "changes", "question", "test", "order", "part", "sums",
        "build", "look", "cost", "plan", "run", "total", "room", "built", "choose", "greedy", "count",
    };

    /** Which of the calls that change something tell whether they did by a boolean. */
    static final boolean[] TELLS_TRUE = {
        true, false, true, false, false, true, false, true, false, false, false, true,
    };

    final IndexDesk desk = new IndexDesk();
    final Model model = new Model();
    int calls = 0;

    /** What both answer to a call by its place in NAMES (a boolean as 1 or 0). */
    long call(int which, int... v) {
        calls++;
        long due = modelAnswer(which, v);
        Check.due(NAMES[which] + Arrays.toString(v), deskAnswer(which, v), due);
        return due;
    }

    private static long number(boolean is) {
        return is ? 1 : 0;
    }

    private long deskAnswer(int which, int[] v) {
        switch (which) {
            case 0: return number(desk.table(v[0], v[1], v[2]));
            case 1: return desk.put(v[0], v[1], v[2], v[3], v[4]);
            case 2: return number(desk.strike(v[0], v[1]));
            case 3: return desk.recount(v[0]);
            case 4: return desk.counts(v[0], v[1], v[2]);
            case 5: return number(desk.changes(v[0], v[1]));
            case 6: return desk.question(v[0], v[1], v[2], v[3]);
            case 7: return number(desk.test(v[0], v[1], v[2], v[3]));
            case 8: return desk.order(v[0], v[1], v[2], v[3], v[4], v[5]);
            case 9: return desk.part(v[0], v[1], v[2], v[3], v[4], v[5]);
            case 10: return desk.sums(v[0], v[1], v[2]);
            case 11: return number(desk.build(v[0], v[1] == 1));
            case 12: return desk.look(v[0], v[1]);
            case 13: return desk.cost(v[0], v[1]);
            case 14: return desk.plan(v[0]);
            case 15: return desk.run(v[0], v[1]);
            case 16: return desk.total(v[0]);
            case 17: return desk.room(v[0]);
            case 18: return desk.built();
            case 19: return desk.choose(v[0]);
            case 20: return desk.greedy(v[0]);
            default: return desk.count(v[0]);
        }
    }

    private long modelAnswer(int which, int[] v) {
        switch (which) {
            case 0: return number(model.table(v[0], v[1], v[2]));
            case 1: return model.put(v[0], v[1], v[2], v[3], v[4]);
            case 2: return number(model.strike(v[0], v[1]));
            case 3: return model.recount(v[0]);
            case 4: return model.counts(v[0], v[1], v[2]);
            case 5: return number(model.changes(v[0], v[1]));
            case 6: return model.question(v[0], v[1], v[2], v[3]);
            case 7: return number(model.test(v[0], v[1], v[2], v[3]));
            case 8: return model.order(v[0], v[1], v[2], v[3], v[4], v[5]);
            case 9: return model.part(v[0], v[1], v[2], v[3], v[4], v[5]);
            case 10: return model.sums(v[0], v[1], v[2]);
            case 11: return number(model.build(v[0], v[1] == 1));
            case 12: return model.look(v[0], v[1]);
            case 13: return model.cost(v[0], v[1]);
            case 14: return model.plan(v[0]);
            case 15: return model.run(v[0], v[1]);
            case 16: return model.total(v[0]);
            case 17: return model.room(v[0]);
            case 18: return model.built();
            case 19: return model.choose(v[0]);
            case 20: return model.greedy(v[0]);
            default: return model.count(v[0]);
        }
    }
}
