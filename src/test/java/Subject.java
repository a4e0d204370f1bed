/** A ThreePrimes whose calls are counted: the document promises nothing after the 512th. */
final class Subject {
    static final int MOST_CALLS = 512;
    static final int[] PRIMES = {998244353, 167772161, 469762049};

    private final ThreePrimes object = new ThreePrimes();
    private int calls = 0;

    static Subject sized(int k) {
        Subject x = new Subject();
        x.size(k);
        return x;
    }

    /** All places of both rows are v. */
    static Subject filled(int k, int v) {
        return filled(k, 1, v);
    }

    /**
     * All places of row B are v, all of row A are factor times v, cut to an int. Takes n + 4 calls
     * in place of 2 n, so that some are left for n 256 too.
     */
    static Subject filled(int k, int factor, int v) {
        Subject x = sized(k);
        for (int i = 0; i < 1 << k; i++) {
            x.setB(i, v);
        }
        x.setA(0, factor);
        x.fold(0);
        x.keep();
        return x;
    }

    /** Row A from place 0 on. */
    Subject withA(int... numbers) {
        for (int i = 0; i < numbers.length; i++) {
            setA(i, numbers[i]);
        }
        return this;
    }

    /** Row B from place 0 on. */
    Subject withB(int... numbers) {
        for (int i = 0; i < numbers.length; i++) {
            setB(i, numbers[i]);
        }
        return this;
    }

    int callsLeft() {
        return MOST_CALLS - calls;
    }

    void size(int k) {
        counted().size(k);
    }

    int setA(int i, int v) {
        return counted().setA(i, v);
    }

    int setB(int i, int v) {
        return counted().setB(i, v);
    }

    int a(int i) {
        return counted().a(i);
    }

    int b(int i) {
        return counted().b(i);
    }

    void swap() {
        counted().swap();
    }

    int fold(int kind) {
        return counted().fold(kind);
    }

    int power(int e) {
        return counted().power(e);
    }

    long low(int i) {
        return counted().low(i);
    }

    int high(int i) {
        return counted().high(i);
    }

    int rest(int prime, int i) {
        return counted().rest(prime, i);
    }

    int value(int prime, int i) {
        return counted().value(prime, i);
    }

    int back(int prime, int i) {
        return counted().back(prime, i);
    }

    void keep() {
        counted().keep();
    }

    int product(int prime, int x, int y) {
        return counted().product(prime, x, y);
    }

    int root(int prime, int e) {
        return counted().root(prime, e);
    }

    private ThreePrimes counted() {
        calls++;
        if (calls == MOST_CALLS + 1) {
            Check.that("this test makes more than 512 calls on one object", false);
            new Throwable().printStackTrace(System.out);
        }
        return object;
    }
}
