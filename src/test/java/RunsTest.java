import java.util.Random;

/** Runs of 512 calls drawn from fixed seeds, each answer compared with the Model's. */
public final class RunsTest {
    private static final int RUNS = 240;
    private static final int CALLS = 512;
    private static final int[] EDGES = {
        0, 1, -1, 2, -2, Integer.MAX_VALUE, Integer.MIN_VALUE, Integer.MIN_VALUE + 1,
        998244353, -998244353, 167772161, 469762049, 998244352, 65536, -65536
    };

    private interface Answer {
        long get();
    }

    private final Random random;
    private final int run;
    private final ThreePrimes program = new ThreePrimes();
    private final Model model = new Model();
    private int n = 2;
    private int powersLeft = 6;

    private RunsTest(int run) {
        this.run = run;
        random = new Random(run);
    }

    public static void main(String[] args) {
        for (int run = 0; run < RUNS; run++) {
            new RunsTest(run).play();
        }
        Check.end();
    }

    private void play() {
        resize(1 + run % 8);
        fillRows(run / 8 % 3);
        int called = 1 + 2 * Math.min(n, 64);
        for (; called < CALLS; called++) {
            call();
        }
    }

    /** Style 0: all lowest ints; 1: lowest and highest; 2: any. Places that are not set stay 0. */
    private void fillRows(int style) {
        int step = Math.max(1, n / 64);
        for (int i = 0; i < n; i += step) {
            int place = i;
            int forA = styled(style);
            int forB = styled(style);
            compare("setA(" + i + ", " + forA + ")",
                    () -> program.setA(place, forA), () -> model.setA(place, forA));
            compare("setB(" + i + ", " + forB + ")",
                    () -> program.setB(place, forB), () -> model.setB(place, forB));
        }
    }

    private int styled(int style) {
        if (style == 0) {
            return Integer.MIN_VALUE;
        }
        if (style == 1) {
            return random.nextBoolean() ? Integer.MIN_VALUE : Integer.MAX_VALUE;
        }
        return random.nextInt();
    }

    private void call() {
        int i = place();
        int v = number();
        int prime = prime();
        switch (random.nextInt(32)) {
            case 0: case 1:
                compare("setA(" + i + ", " + v + ")", () -> program.setA(i, v), () -> model.setA(i, v));
                break;
            case 2: case 3:
                compare("setB(" + i + ", " + v + ")", () -> program.setB(i, v), () -> model.setB(i, v));
                break;
            case 4: case 5: case 6:
                compare("a(" + i + ")", () -> program.a(i), () -> model.a(i));
                break;
            case 7: case 8:
                compare("b(" + i + ")", () -> program.b(i), () -> model.b(i));
                break;
            case 9: case 10:
                compare("swap()", () -> none(program::swap), () -> none(model::swap));
                break;
            case 11: case 12:
                callFold();
                break;
            case 13:
                callPower();
                break;
            case 14: case 15: case 16:
                callLow(result());
                break;
            case 17: case 18: case 19:
                callHigh(result());
                break;
            case 20: case 21: case 22:
                callRest(prime, result());
                break;
            case 23: case 24:
                compare("value(" + prime + ", " + i + ")",
                        () -> program.value(prime, i), () -> model.value(prime, i));
                break;
            case 25: case 26:
                compare("back(" + prime + ", " + i + ")",
                        () -> program.back(prime, i), () -> model.back(prime, i));
                break;
            case 27:
                compare("keep()", () -> none(program::keep), () -> none(model::keep));
                break;
            case 28: case 29:
                callProduct(prime, v, number());
                break;
            case 30:
                compare("root(" + prime + ", " + v + ")",
                        () -> program.root(prime, v), () -> model.root(prime, v));
                break;
            default:
                callSize();
                break;
        }
    }

    private void callFold() {
        int kind = random.nextInt(12) == 0 ? number() : random.nextInt(3);
        compare("fold(" + kind + ")", () -> program.fold(kind), () -> model.fold(kind));
    }

    /** The model's power is slow, so a run has few of the long ones. */
    private void callPower() {
        boolean isLong = n <= 16 || powersLeft > 0 && random.nextInt(4) == 0;
        int e = random.nextInt(8) == 0 ? random.nextInt(2) * 1001
                : isLong ? 1 + random.nextInt(1000) : 1 + random.nextInt(9);
        if (n > 16 && e > 9) {
            powersLeft--;
        }
        compare("power(" + e + ")", () -> program.power(e), () -> model.power(e));
    }

    private void callLow(int i) {
        compare("low(" + i + ")", () -> program.low(i), () -> model.low(i));
    }

    private void callHigh(int i) {
        compare("high(" + i + ")", () -> program.high(i), () -> model.high(i));
    }

    private void callRest(int prime, int i) {
        compare("rest(" + prime + ", " + i + ")",
                () -> program.rest(prime, i), () -> model.rest(prime, i));
    }

    private void callProduct(int prime, int x, int y) {
        compare("product(" + prime + ", " + x + ", " + y + ")",
                () -> program.product(prime, x, y), () -> model.product(prime, x, y));
    }

    /** Seldom a good one: a new size makes all rows 0. */
    private void callSize() {
        int k = random.nextInt(6) == 0 ? 1 + random.nextInt(8) : random.nextInt(2) * 9;
        resize(k);
    }

    private void resize(int k) {
        compare("size(" + k + ")", () -> none(() -> program.size(k)), () -> none(() -> model.size(k)));
        if (k >= 1 && k <= 8) {
            n = 1 << k;
        }
    }

    private int place() {
        int choice = random.nextInt(20);
        return choice == 0 ? n : choice == 1 ? -1 : choice == 2 ? number() : random.nextInt(n);
    }

    private int result() {
        int choice = random.nextInt(20);
        return choice == 0 ? 2 * n - 1 : choice == 1 ? -1 : choice == 2 ? 2 * n - 2
                : choice == 3 ? n : choice < 8 ? random.nextInt(2 * n) : random.nextInt(n);
    }

    private int prime() {
        int choice = random.nextInt(20);
        return choice == 0 ? 3 : choice == 1 ? -1 : random.nextInt(3);
    }

    private int number() {
        int choice = random.nextInt(3);
        return choice == 0 ? EDGES[random.nextInt(EDGES.length)]
                : choice == 1 ? random.nextInt(2001) - 1000 : random.nextInt();
    }

    private static long none(Check.Call call) {
        call.run();
        return 0;
    }

    private void compare(String call, Answer program, Answer model) {
        String got = told(program);
        String due = told(model);
        Check.that("run " + run + ": " + call + " answered " + got + ", due is " + due, got.equals(due));
    }

    private static String told(Answer answer) {
        try {
            return Long.toString(answer.get());
        } catch (RuntimeException e) {
            return "throws." + e.getClass().getSimpleName();
        }
    }
}
