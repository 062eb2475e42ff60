import java.util.Random;
import java.util.function.LongSupplier;

/** Long runs of calls, most of them sensible and some wild, each answer compared with the plain model's. */
public final class RandomRunsTest {
    private static final int RUNS = 1500;
    private static final int CALLS_OF_A_RUN = 512;
    private static final int[] WILD = {
        -1, -2, 4, 9, 10, 14, 16, 59, 60, 61, 64, 199, 200, 10000, 10001, 1000000, 1000001, 99999998, 99999999,
        100000000, Integer.MAX_VALUE, Integer.MIN_VALUE
    };
    /** How often each of the sixteen methods is called, by the kind of the run. */
    private static final int[][] OFTEN = {
        {5, 8, 5, 10, 6, 1, 6, 4, 6, 4, 4, 20, 14, 3, 4, 8},
        {20, 30, 4, 4, 2, 1, 8, 2, 2, 10, 2, 12, 2, 1, 6, 8},
        {3, 3, 20, 30, 20, 1, 1, 6, 20, 3, 20, 12, 25, 6, 1, 4},
        {4, 6, 4, 8, 5, 1, 4, 8, 3, 12, 3, 25, 8, 2, 3, 10},
    };

    private final Random random;
    private final int[] often;
    private final boolean wildRun;
    private final boolean crowded;
    private final BillMatch real = new BillMatch();
    private final PlainModel model = new PlainModel();

    private RandomRunsTest(long seed) {
        random = new Random(seed);
        often = OFTEN[(int) (seed % OFTEN.length)];
        wildRun = seed % 5 == 0;
        crowded = seed % 3 == 0;
    }

    public static void main(String[] args) {
        Expect expect = new Expect("random runs");
        for (int run = 0; run < RUNS; run++) {
            new RandomRunsTest(run).play(expect, run);
        }
        expect.end();
    }

    private void play(Expect expect, int run) {
        for (int call = 0; call < CALLS_OF_A_RUN; call++) {
            int method = pick();
            int a = argument(method, 0);
            int b = argument(method, 1);
            int c = argument(method, 2);
            String due = answer(() -> callModel(method, a, b, c));
            String got = answer(() -> callReal(method, a, b, c));
            expect.same("run " + run + " call " + call + " method " + method + "(" + a + ", " + b + ", " + c + ")", due, got);
        }
    }

    private int pick() {
        int sum = 0;
        for (int part : often) {
            sum += part;
        }
        int left = random.nextInt(sum);
        int method = 0;
        while (left >= often[method]) {
            left -= often[method];
            method++;
        }
        return method;
    }

    private static String answer(LongSupplier call) {
        try {
            return Long.toString(call.getAsLong());
        } catch (RuntimeException e) {
            return e.getClass().getName();
        }
    }

    private int argument(int method, int place) {
        if (random.nextInt(wildRun ? 8 : 60) == 0) {
            return WILD[random.nextInt(WILD.length)];
        }
        switch (method * 3 + place) {
            case 0: case 6: case 15: case 42: return random.nextInt(crowded ? 2 : 4);
            case 1: case 7: case 43: return number();
            case 2: return random.nextInt(3) == 0 ? -1 : some(model.count(0));
            case 3: case 18: case 21: case 24: case 27: case 33: case 10: return some(model.count(0));
            case 4: case 8: case 13: case 20: case 28: return weight();
            case 5: return random.nextInt(10001);
            case 9: case 12: case 25: case 30: case 31: case 36: return some(model.count(1));
            case 19: return random.nextInt(4);
            case 22: case 26: return random.nextInt(4) == 0 ? random.nextInt(10) : 0;
            case 23: return random.nextInt(10);
            case 34: return random.nextInt(16);
            case 37: return random.nextInt(14);
            case 39: case 44: return random.nextInt(6) - 1;
            case 45: return random.nextInt(9);
            default: return 0;
        }
    }

    private int some(int size) {
        return size == 0 ? 0 : random.nextInt(size);
    }

    private int number() {
        switch (random.nextInt(4)) {
            case 0: return random.nextInt(30);
            case 1: return 99999999 - random.nextInt(3);
            case 2: return random.nextInt(10) * 10000000 + random.nextInt(10) * 1000000;
            default: return 12345678 + random.nextInt(40);
        }
    }

    private int weight() {
        switch (random.nextInt(4)) {
            case 0: return random.nextInt(12);
            case 1: return random.nextInt(5) * 1000 + random.nextInt(3);
            case 2: return 500 + random.nextInt(100);
            default: return random.nextInt(1000001);
        }
    }

    private static long bit(boolean answer) {
        return answer ? 1 : 0;
    }

    private long callReal(int method, int a, int b, int c) {
        switch (method) {
            case 0: return real.bill(a, b, c);
            case 1: return real.line(a, b, c);
            case 2: return real.box(a, b, c);
            case 3: return bit(real.on(a, b));
            case 4: return bit(real.land(a, b));
            case 5: return bit(real.arrive(a));
            case 6: return real.amend(a, b, c);
            case 7: return real.title(a, b, c);
            case 8: return real.order(a, b, c);
            case 9: return real.split(a, b);
            case 10: return bit(real.leg(a, b));
            case 11: return real.look(a, b);
            case 12: return real.seen(a, b);
            case 13: return real.waits(a);
            case 14: return real.like(a, b, c);
            default: return real.count(a);
        }
    }

    private long callModel(int method, int a, int b, int c) {
        switch (method) {
            case 0: return model.bill(a, b, c);
            case 1: return model.line(a, b, c);
            case 2: return model.box(a, b, c);
            case 3: return bit(model.on(a, b));
            case 4: return bit(model.land(a, b));
            case 5: return bit(model.arrive(a));
            case 6: return model.amend(a, b, c);
            case 7: return model.title(a, b, c);
            case 8: return model.order(a, b, c);
            case 9: return model.split(a, b);
            case 10: return bit(model.leg(a, b));
            case 11: return model.look(a, b);
            case 12: return model.seen(a, b);
            case 13: return model.waits(a);
            case 14: return model.like(a, b, c);
            default: return model.count(a);
        }
    }
}
