import java.util.Random;

/** All promises: random runs of calls (the seeds are fixed), each answer held against the Model. */
public final class ModelTest {
    private static final int RUNS = 400;
    private static final int CALLS = 512;
    private static final int[] ODD = {-2, -1, 4, 5, 9, 12, 24, 61, 1000, 10001, Integer.MAX_VALUE, Integer.MIN_VALUE};

    private final Random random;
    private final Pair pair = new Pair();
    private final int spread;
    private final int tables;
    private final boolean isWild;

    private ModelTest(int seed) {
        random = new Random(seed);
        spread = new int[] {3, 8, 30, 1000}[seed % 4];
        tables = 1 + seed % 3;
        isWild = seed % 5 == 0;
    }

    public static void main(String[] args) {
        for (int seed = 0; seed < RUNS && Check.allRight(); seed++) {
            new ModelTest(seed).calls();
        }
        Check.finish();
    }

    private void calls() {
        for (int t = 0; t < tables; t++) {
            call(0, t, 1 + random.nextInt(4), 2 + random.nextInt(random.nextBoolean() ? 2 : 7));
        }
        // Rows come first in most runs, so that counts are worth something; later all calls mix.
        int filling = 40 + random.nextInt(120);
        for (int i = tables; i < CALLS && Check.allRight(); i++) {
            if (i < filling) {
                call(1, table(), value(), value(), value(), value());
            } else if (i < filling + tables) {
                call(3, i - filling);
            } else {
                anyCall();
            }
        }
    }

    private void anyCall() {
        int pick = random.nextInt(100);
        if (pick < 4) call(1, table(), value(), value(), value(), value());
        else if (pick < 7) call(2, table(), odd(random.nextInt(40)));
        else if (pick < 9) call(3, table());
        else if (pick < 13) call(4, table(), column(), odd(random.nextInt(6)));
        else if (pick < 17) call(5, table(), odd(random.nextInt(random.nextBoolean() ? 8 : 40)));
        else if (pick < 22) call(6, table(), bits(), odd(random.nextInt(5) - 1), odd(1 + random.nextInt(12)));
        else if (pick < 34) test();
        else if (pick < 38) order();
        else if (pick < 40) part();
        else if (pick < 42) call(10, table(), bits(), column());
        else if (pick < 50) call(11, aid(), random.nextInt(3) > 0 ? 1 : 0);
        else if (pick < 60) call(12, aid(), odd(random.nextInt(6)));
        else if (pick < 70) call(13, question(), random.nextInt(8) == 0 ? -1 : aid());
        else if (pick < 74) call(14, question());
        else if (pick < 86) call(15, question(), odd(random.nextInt(4)));
        else if (pick < 90) call(16, set());
        else if (pick < 93) call(17, set());
        else if (pick < 94) call(18);
        else if (pick < 95) call(19, room());
        else if (pick < 98) call(20, room());
        else if (pick < 99) call(21, odd(random.nextInt(4)));
        else call(0, odd(random.nextInt(4)), odd(1 + random.nextInt(4)), odd(2 + random.nextInt(7)));
    }

    private void test() {
        int from = value();
        int to = random.nextInt(3) == 0 ? from : from + random.nextInt(spread);
        call(7, question(), column(), from, random.nextInt(20) == 0 ? value() : Math.min(to, isWild ? to : 999));
    }

    private void order() {
        int kind = new int[] {0, 1, 1, 4, 4, 2, 3}[random.nextInt(isWild ? 7 : 5)];
        int b = random.nextInt(3) == 0 ? -1 : column();
        int c = b == -1 && random.nextInt(9) > 0 || random.nextInt(3) == 0 ? -1 : column();
        call(8, table(), odd(kind), column(), b, c, bits());
    }

    private void part() {
        int from = value();
        int to = Math.min(999, from + random.nextInt(spread));
        call(9, table(), column(), random.nextBoolean() ? -1 : column(), column(), from, odd(to));
    }

    private int odd(int usual) {
        return random.nextInt(isWild ? 8 : 60) == 0 ? ODD[random.nextInt(ODD.length)] : usual;
    }

    private int table() {
        return odd(random.nextInt(tables));
    }

    private int value() {
        return odd(random.nextInt(spread));
    }

    private int column() {
        return odd(random.nextInt(random.nextInt(4) == 0 ? 4 : 2));
    }

    private int bits() {
        return odd(random.nextInt(3) == 0 ? 0 : random.nextInt(random.nextBoolean() ? 4 : 16));
    }

    private int question() {
        return odd(random.nextInt(Math.max(1, pair.model.count(1))));
    }

    private int aid() {
        return odd(random.nextInt(Math.max(1, pair.model.count(2))));
    }

    private int set() {
        return odd(random.nextInt(1 << pair.model.count(2)));
    }

    private int room() {
        return odd(random.nextInt(random.nextBoolean() ? 12 : 60));
    }

    private void call(int which, int... v) {
        pair.call(which, v);
    }
}
