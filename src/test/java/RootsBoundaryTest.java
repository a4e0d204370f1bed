/** The boundary cases of promises 13, 14, 16 and 17: values at roots, and back, modulo a prime. */
public final class RootsBoundaryTest {
    private static final int LEAST = Check.LEAST;
    private static final int MOST = Check.MOST;
    private static final int[] PRIMES = Subject.PRIMES;

    private static final int[] NEVER_PLACES = {-1, -2, LEAST, LEAST + 1, 4, 5, 255, 256, 65536, MOST};
    private static final int[] NEVER_PRIMES = {-1, -2, -3, LEAST, LEAST + 1, 3, 4, 256, 65536, MOST};

    /** For each prime: 3 to the ((p - 1) / n) for n 2, 4, 8 .. 256. */
    private static final int[][] ROOTS = {
        {998244352, 911660635, 372528824, 929031873, 452798380, 922799308, 781712469, 476477967},
        {167772160, 65249968, 71493608, 116878283, 17334830, 54112143, 370529, 26238939},
        {469762048, 450151958, 129701348, 426037461, 244709223, 210853138, 189158148, 338628632}
    };

    private interface OfPrimeAndPlace {
        int call(Subject x, int prime, int i);
    }

    public static void main(String[] args) {
        Check.runTestsOf(RootsBoundaryTest.class);
    }

    /** Promise 13: "prime is not 0 to 2". */
    private static void promise13NoSuchPrime() {
        checkNoSuchPrime("13 value", Subject::value);
    }

    /** Promise 13: "there is no such place". */
    private static void promise13NoSuchPlace() {
        checkNoSuchPlace("13 value", Subject::value);
    }

    /** Promise 13: the exception named first, where there is neither such a prime nor a place. */
    private static void promise13FirstNamedException() {
        checkFirstNamed("13 value", Subject::value);
    }

    /** Promise 14: "prime is not 0 to 2". */
    private static void promise14NoSuchPrime() {
        checkNoSuchPrime("14 back", Subject::back);
    }

    /** Promise 14: "there is no such place". */
    private static void promise14NoSuchPlace() {
        checkNoSuchPlace("14 back", Subject::back);
    }

    /** Promise 14: the exception named first, where there is neither such a prime nor a place. */
    private static void promise14FirstNamedException() {
        checkFirstNamed("14 back", Subject::back);
    }

    private static void checkNoSuchPrime(String name, OfPrimeAndPlace method) {
        for (int prime : NEVER_PRIMES) {
            Refusal.checkOnAll(name + "(" + prime + ", 0)", Check.ARGUMENT,
                    x -> method.call(x, prime, 0));
        }
    }

    private static void checkNoSuchPlace(String name, OfPrimeAndPlace method) {
        for (int prime = 0; prime < 3; prime++) {
            int good = prime;
            for (int i : NEVER_PLACES) {
                Refusal.checkOnAll(name + "(" + prime + ", " + i + ")", Check.INDEX,
                        x -> method.call(x, good, i));
            }
            checkPlacesOfALargerN(name, method, prime);
        }
    }

    private static void checkPlacesOfALargerN(String name, OfPrimeAndPlace method, int prime) {
        Subject x = new Subject();
        for (int k = 8; k >= 1; k--) {
            x.size(k);
            int n = 1 << k;
            Check.equal(name + " at n - 1 of a row of 0", 0, method.call(x, prime, n - 1));
            Check.throwing(name + "(" + prime + ", n), n " + n, Check.INDEX, () -> method.call(x, prime, n));
            Check.throwing(name + "(" + prime + ", -1), n " + n, Check.INDEX,
                    () -> method.call(x, prime, -1));
        }
    }

    private static void checkFirstNamed(String name, OfPrimeAndPlace method) {
        for (int prime : NEVER_PRIMES) {
            for (int i : new int[] {-1, 4, LEAST, MOST}) {
                Refusal.checkOnAll(name + "(" + prime + ", " + i + ")", Check.ARGUMENT,
                        x -> method.call(x, prime, i));
            }
        }
    }

    /** Promise 13: place 0 is the sum of the row, place n / 2 the sum with signs that change. */
    private static void promise13FirstAndMiddlePlace() {
        for (int k = 1; k <= 8; k++) {
            int n = 1 << k;
            Subject x = Subject.sized(k);
            x.setA(0, LEAST);
            x.setA(n - 1, MOST);
            for (int prime = 0; prime < 3; prime++) {
                Check.equal("13 n " + n + ": value at 0", PRIMES[prime] - 1, x.value(prime, 0));
                Check.equal("13 n " + n + ": value at n / 2",
                        Math.floorMod((long) LEAST - MOST, PRIMES[prime]), x.value(prime, n / 2));
            }
        }
    }

    /** Promise 13: "w^(i j)" with i j up to (n - 1) (n - 1), far beyond n. */
    private static void promise13PowersWrapAround() {
        for (int k = 1; k <= 8; k++) {
            int n = 1 << k;
            for (int j : new int[] {0, 1, n / 2, n - 1}) {
                Subject x = Subject.sized(k);
                x.setA(j, 1);
                for (int prime = 0; prime < 3; prime++) {
                    for (int i : new int[] {0, 1, n / 2, n - 1}) {
                        Check.equal("13 n " + n + ": value(" + prime + ", " + i + ") of a 1 at " + j,
                                rootTo(prime, k, i * j % n), x.value(prime, i));
                    }
                }
            }
        }
    }

    /** Promise 13: full rows of the extremes: n times the number at place 0, else 0. */
    private static void promise13FullRows() {
        for (int v : new int[] {LEAST, MOST, -1, 1}) {
            for (int k = 1; k <= 8; k++) {
                int n = 1 << k;
                Subject x = Subject.filled(k, v);
                for (int prime = 0; prime < 3; prime++) {
                    Check.equal("13 n " + n + ": value at 0 of a full row of " + v,
                            Math.floorMod((long) n * v, PRIMES[prime]), x.value(prime, 0));
                    Check.equal("13 n " + n + ": value at 1", 0, x.value(prime, 1));
                    Check.equal("13 n " + n + ": value at n - 1", 0, x.value(prime, n - 1));
                }
            }
        }
    }

    /** Promise 13: "modulo a prime": 0 to p - 1 next to multiples of p, below 0 too. */
    private static void promise13Remainders() {
        for (int prime = 0; prime < 3; prime++) {
            int p = PRIMES[prime];
            checkValueAndBack(prime, p, 0);
            checkValueAndBack(prime, -p, 0);
            checkValueAndBack(prime, p - 1, p - 1);
            checkValueAndBack(prime, p + 1, 1);
            checkValueAndBack(prime, -1, p - 1);
            checkValueAndBack(prime, 1 - p, 1);
            checkValueAndBack(prime, -p - 1, p - 1);
            checkValueAndBack(prime, LEAST, Math.floorMod(LEAST, p));
            checkValueAndBack(prime, MOST, MOST % p);
        }
    }

    /** A number at place 0 is all values of its row; as all values it is place 0 of the row back. */
    private static void checkValueAndBack(int prime, int v, int due) {
        Subject x = Subject.sized(2).withA(v, 0, 0, 0);
        for (int i = 0; i < 4; i++) {
            Check.equal("13 value(" + prime + ", " + i + ") of " + v, due, x.value(prime, i));
        }
        x.withA(v, v, v, v);
        Check.equal("14 back(" + prime + ", 0) of " + v, due, x.back(prime, 0));
        for (int i = 1; i < 4; i++) {
            Check.equal("14 back(" + prime + ", " + i + ") of " + v, 0, x.back(prime, i));
        }
    }

    /** Promises 13 and 14: A is only looked at, and the results of the last folding don't matter. */
    private static void promise13And14ChangeNothing() {
        Subject x = Subject.sized(1).withA(LEAST, 7).withB(2, 3);
        x.fold(2);
        x.value(0, 0);
        x.value(2, 1);
        x.back(0, 0);
        x.back(2, 1);
        Check.rowA("13, 14", x, LEAST, 7);
        Check.rowB("13, 14", x, 2, 3);
        Check.results("13, 14", x, 2L * LEAST, 14 + 3L * LEAST, 21);
    }

    /** Promise 14: "n x is the sum": place 0 is the n-th part of the sum, which p need not divide. */
    private static void promise14FirstPlace() {
        for (int k = 1; k <= 8; k++) {
            int n = 1 << k;
            Subject x = Subject.sized(k);
            x.setA(n - 1, 1);
            for (int prime = 0; prime < 3; prime++) {
                Check.equal("14 n " + n + ": n times back at 0",
                        1, (long) n * x.back(prime, 0) % PRIMES[prime]);
            }
            x.setA(0, LEAST);
            x.setA(n - 1, LEAST + n);
            for (int prime = 0; prime < 3; prime++) {
                Check.equal("14 n " + n + ": n times back at 0", Math.floorMod(2L * LEAST + n, PRIMES[prime]),
                        (long) n * x.back(prime, 0) % PRIMES[prime]);
            }
        }
    }

    /** Promise 14: "w^(-i j)" with i j up to (n - 1) (n - 1); the sign of the exponent counts. */
    private static void promise14PowersWrapAround() {
        for (int k = 1; k <= 8; k++) {
            int n = 1 << k;
            for (int j : new int[] {0, 1, n / 2, n - 1}) {
                Subject x = Subject.sized(k);
                x.setA(j, n);
                for (int prime = 0; prime < 3; prime++) {
                    for (int i : new int[] {0, 1, n / 2, n - 1}) {
                        Check.equal("14 n " + n + ": back(" + prime + ", " + i + ") of an n at " + j,
                                rootTo(prime, k, (n - i * j % n) % n), x.back(prime, i));
                    }
                }
            }
        }
    }

    /** Promise 14: full rows of the extremes: the number itself at place 0, else 0. */
    private static void promise14FullRows() {
        for (int v : new int[] {LEAST, MOST, -1, 1}) {
            for (int k = 1; k <= 8; k++) {
                int n = 1 << k;
                Subject x = Subject.filled(k, v);
                for (int prime = 0; prime < 3; prime++) {
                    Check.equal("14 n " + n + ": back at 0 of a full row of " + v,
                            Math.floorMod(v, PRIMES[prime]), x.back(prime, 0));
                    Check.equal("14 n " + n + ": back at 1", 0, x.back(prime, 1));
                    Check.equal("14 n " + n + ": back at n - 1", 0, x.back(prime, n - 1));
                }
            }
        }
    }

    /** Promise 14: "the row whose values at the roots are those of row A", for every n. */
    private static void promise14BackFromValues() {
        for (int k = 1; k <= 8; k++) {
            for (int prime = 0; prime < 3; prime++) {
                int[] row = extremes(1 << k);
                int[] values = valuesOf(row, k, prime);
                Subject x = Subject.sized(k).withA(values);
                int step = row.length / x.callsLeft() + 1;
                for (int i = row.length - 1; i >= 0; i -= step) {
                    Check.equal("14 n " + row.length + ": back(" + prime + ", " + i + ")",
                            Math.floorMod(row[i], PRIMES[prime]), x.back(prime, i));
                }
            }
        }
    }

    private static int[] extremes(int n) {
        int[] row = new int[n];
        for (int i = 0; i < n; i++) {
            row[i] = i % 3 == 0 ? LEAST + i : i % 3 == 1 ? MOST - i * i : -i;
        }
        return row;
    }

    /** Two objects share the places, because one has calls for 255 of them alone. */
    private static int[] valuesOf(int[] row, int k, int prime) {
        Subject one = Subject.sized(k).withA(row);
        Subject other = Subject.sized(k).withA(row);
        int[] values = new int[row.length];
        for (int i = 0; i < row.length; i++) {
            values[i] = (i % 2 == 0 ? one : other).value(prime, i);
        }
        return values;
    }

    /** Promise 16: "prime is not 0 to 2", whatever x and y are. */
    private static void promise16NoSuchPrime() {
        for (int prime : NEVER_PRIMES) {
            Refusal.checkOnAll("16 product(" + prime + ", 1, 1)", Check.ARGUMENT,
                    x -> x.product(prime, 1, 1));
            Refusal.checkOnAll("16 product(" + prime + ", 0, 0)", Check.ARGUMENT,
                    x -> x.product(prime, 0, 0));
            Refusal.checkOnAll("16 product(" + prime + ", least, most)", Check.ARGUMENT,
                    x -> x.product(prime, LEAST, MOST));
        }
    }

    /** Promise 16: "for any ints": the products of the extremes, of 62 bits and more. */
    private static void promise16Extremes() {
        int[][] due = {
            {732135154, 417104141, 430145271},
            {93952574, 40265142, 161061465},
            {115043788, 153391664, 47934934}
        };
        Subject x = new Subject();
        for (int prime = 0; prime < 3; prime++) {
            Check.equal("16 least least", due[prime][0], x.product(prime, LEAST, LEAST));
            Check.equal("16 least most", due[prime][1], x.product(prime, LEAST, MOST));
            Check.equal("16 most least", due[prime][1], x.product(prime, MOST, LEAST));
            Check.equal("16 most most", due[prime][2], x.product(prime, MOST, MOST));
        }
    }

    /** Promise 16: "modulo a prime": 0 to p - 1 next to multiples of p, below 0 too. */
    private static void promise16Remainders() {
        Subject x = new Subject();
        for (int prime = 0; prime < 3; prime++) {
            int p = PRIMES[prime];
            Check.equal("16 0 least", 0, x.product(prime, 0, LEAST));
            Check.equal("16 p most", 0, x.product(prime, p, MOST));
            Check.equal("16 -p 1", 0, x.product(prime, -p, 1));
            Check.equal("16 p -p", 0, x.product(prime, p, -p));
            Check.equal("16 p - 1 1", p - 1, x.product(prime, p - 1, 1));
            Check.equal("16 p + 1 1", 1, x.product(prime, 1, p + 1));
            Check.equal("16 -1 1", p - 1, x.product(prime, -1, 1));
            Check.equal("16 1 -1", p - 1, x.product(prime, 1, -1));
            Check.equal("16 -1 -1", 1, x.product(prime, -1, -1));
            Check.equal("16 p - 1 p - 1", 1, x.product(prime, p - 1, p - 1));
            Check.equal("16 p - 1 1 - p", p - 1, x.product(prime, p - 1, 1 - p));
        }
    }

    /** Promise 16: neither n, the rows nor the results matter, and none of them changes. */
    private static void promise16StandsAlone() {
        Subject x = Subject.sized(2).withA(1, 2, 3, 4).withB(5, 6, 7, 8);
        x.fold(0);
        for (int k = 0; k <= 8; k++) {
            Check.equal("16 after size(" + k + ")", 998244332, x.product(0, -3, 7));
            if (k == 0) {
                Check.rowA("16", x, 1, 2, 3, 4);
                Check.rowB("16", x, 5, 6, 7, 8);
                Check.results("16", x, 66, 68, 66, 60);
            }
            if (k < 8) {
                x.size(k + 1);
            }
        }
    }

    /** Promise 17: "prime is not 0 to 2", whatever e is. */
    private static void promise17NoSuchPrime() {
        for (int prime : NEVER_PRIMES) {
            for (int e : new int[] {0, 1, LEAST, MOST}) {
                Refusal.checkOnAll("17 root(" + prime + ", " + e + ")", Check.ARGUMENT,
                        x -> x.root(prime, e));
            }
        }
    }

    /** Promise 17: e 0 is 1, and e 1 the root itself, for every n. */
    private static void promise17ZeroAndOne() {
        for (int k = 1; k <= 8; k++) {
            Subject x = Subject.sized(k);
            for (int prime = 0; prime < 3; prime++) {
                Check.equal("17 root(" + prime + ", 0)", 1, x.root(prime, 0));
                Check.equal("17 root(" + prime + ", 1)", ROOTS[prime][k - 1], x.root(prime, 1));
            }
        }
    }

    /** Promise 17: e next to n / 2, n and multiples of n, where the powers wrap around. */
    private static void promise17WrapsAround() {
        for (int k = 1; k <= 8; k++) {
            int n = 1 << k;
            Subject x = Subject.sized(k);
            for (int prime = 0; prime < 3; prime++) {
                Check.equal("17 n " + n + ": to the n / 2", PRIMES[prime] - 1, x.root(prime, n / 2));
                for (int times : new int[] {1, 2, 3, 255, 256, 1000000}) {
                    checkNextTo(x, prime, k, n * times);
                }
            }
        }
    }

    private static void checkNextTo(Subject x, int prime, int k, int multiple) {
        int n = 1 << k;
        String what = "17 n " + n + ", prime " + prime + ": next to " + multiple;
        Check.equal(what, rootTo(prime, k, n - 1), x.root(prime, multiple - 1));
        Check.equal(what, 1, x.root(prime, multiple));
        Check.equal(what, rootTo(prime, k, 1), x.root(prime, multiple + 1));
    }

    /** Promise 17: "below 0: of its inverse". */
    private static void promise17BelowZero() {
        for (int k = 1; k <= 8; k++) {
            int n = 1 << k;
            Subject x = Subject.sized(k);
            for (int prime = 0; prime < 3; prime++) {
                Check.equal("17 n " + n + ": root times its inverse",
                        1, (long) ROOTS[prime][k - 1] * x.root(prime, -1) % PRIMES[prime]);
                Check.equal("17 n " + n + ": to the -2", rootTo(prime, k, n - 2), x.root(prime, -2));
                Check.equal("17 n " + n + ": to the -n / 2", PRIMES[prime] - 1, x.root(prime, -n / 2));
                Check.equal("17 n " + n + ": to the 1 - n", rootTo(prime, k, 1), x.root(prime, 1 - n));
                checkNextTo(x, prime, k, -n);
                checkNextTo(x, prime, k, -1000000 * n);
            }
        }
    }

    /** Promise 17: "for any int e": the extremes of int. */
    private static void promise17ExtremesOfE() {
        for (int k = 1; k <= 8; k++) {
            int n = 1 << k;
            Subject x = Subject.sized(k);
            for (int prime = 0; prime < 3; prime++) {
                Check.equal("17 n " + n + ": to the most", rootTo(prime, k, n - 1), x.root(prime, MOST));
                Check.equal("17 n " + n + ": to the least", 1, x.root(prime, LEAST));
                Check.equal("17 n " + n + ": to the least + 1",
                        rootTo(prime, k, 1), x.root(prime, LEAST + 1));
            }
        }
    }

    /** The root for n = 2^k to the e, e not below 0, by multiplying e times. */
    private static long rootTo(int prime, int k, int e) {
        long result = 1;
        for (int i = 0; i < e; i++) {
            result = result * ROOTS[prime][k - 1] % PRIMES[prime];
        }
        return result;
    }
}
