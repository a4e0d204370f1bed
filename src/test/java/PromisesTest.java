/** Each promise of ../shared/DOC.md by its number: ordinary inputs and the nearest wrong ones. */
public final class PromisesTest {
    private static final int LEAST = Check.LEAST;
    private static final int MOST = Check.MOST;
    private static final int[] PRIMES = Subject.PRIMES;

    public static void main(String[] args) {
        Check.runTestsOf(PromisesTest.class);
    }

    private static Subject example() {
        return Subject.sized(2).withA(3, -1, 4, 1).withB(2, 7, -1, 8);
    }

    private static void promise1NewObject() {
        Subject x = new Subject();
        Check.rowA("1 new", x, 0, 0);
        Check.rowB("1 new", x, 0, 0);
        Check.throwing("1 new: a(2)", Check.INDEX, () -> x.a(2));
        Check.throwing("1 new: b(2)", Check.INDEX, () -> x.b(2));
        Check.results("1 new", x);
        Check.throwing("1 new: keep()", Check.STATE, x::keep);
        Check.equal("1 new: fold(0)", 2, x.fold(0));
        Check.equal("1 new: root(0, 1) for n 2", 998244352, x.root(0, 1));
        Subject other = new Subject();
        other.setA(0, 9);
        Check.equal("1 objects share no row", 0, x.a(0));
    }

    private static void promise2Size() {
        for (int k = 1; k <= 8; k++) {
            Subject x = Subject.sized(k);
            int n = 1 << k;
            Check.equal("2 size(" + k + "): setA at the last place", 0, x.setA(n - 1, 5));
            Check.equal("2 size(" + k + "): setB at the last place", 0, x.setB(n - 1, 6));
            Check.throwing("2 size(" + k + "): setA behind it", Check.INDEX, () -> x.setA(n, 5));
            Check.equal("2 size(" + k + "): fold(1)", n, x.fold(1));
            Check.equal("2 size(" + k + "): fold(2)", 2 * n - 1, x.fold(2));
            x.size(k);
            Check.equal("2 size(" + k + ") again: A", 0, x.a(n - 1));
            Check.equal("2 size(" + k + ") again: B", 0, x.b(n - 1));
            Check.results("2 size(" + k + ") again", x);
            Check.throwing("2 size(" + k + ") again: keep()", Check.STATE, x::keep);
        }
        Subject x = example();
        x.size(1);
        x.size(3);
        Check.rowA("2 smaller, then larger", x, 0, 0, 0, 0, 0, 0, 0, 0);
        Check.rowB("2 smaller, then larger", x, 0, 0, 0, 0, 0, 0, 0, 0);
    }

    private static void promise2SizeWrong() {
        Subject x = example();
        x.fold(0);
        for (int wrong : new int[] {0, 9, -1, 33, LEAST, MOST}) {
            Check.throwing("2 size(" + wrong + ")", Check.ARGUMENT, () -> x.size(wrong));
        }
        Check.rowA("2 wrong size", x, 3, -1, 4, 1);
        Check.rowB("2 wrong size", x, 2, 7, -1, 8);
        Check.results("2 wrong size", x, 1, 50, 6, 55);
    }

    private static void promise3SetA() {
        Subject x = Subject.sized(2);
        Check.equal("3 setA(1, least)", 0, x.setA(1, LEAST));
        Check.equal("3 setA(1, most)", LEAST, x.setA(1, MOST));
        Check.equal("3 setA(3, -7)", 0, x.setA(3, -7));
        for (int wrong : new int[] {-1, 4, 255, LEAST, MOST}) {
            Check.throwing("3 setA(" + wrong + ", 1)", Check.INDEX, () -> x.setA(wrong, 1));
        }
        Check.rowA("3", x, 0, MOST, 0, -7);
        Check.rowB("3", x, 0, 0, 0, 0);
    }

    private static void promise4SetB() {
        Subject x = Subject.sized(2);
        Check.equal("4 setB(1, least)", 0, x.setB(1, LEAST));
        Check.equal("4 setB(1, most)", LEAST, x.setB(1, MOST));
        Check.equal("4 setB(3, -7)", 0, x.setB(3, -7));
        for (int wrong : new int[] {-1, 4, 255, LEAST, MOST}) {
            Check.throwing("4 setB(" + wrong + ", 1)", Check.INDEX, () -> x.setB(wrong, 1));
        }
        Check.rowB("4", x, 0, MOST, 0, -7);
        Check.rowA("4", x, 0, 0, 0, 0);
    }

    private static void promise5A() {
        Subject x = example();
        Check.rowA("5", x, 3, -1, 4, 1);
        for (int wrong : new int[] {-1, 4, 255, LEAST, MOST}) {
            Check.throwing("5 a(" + wrong + ")", Check.INDEX, () -> x.a(wrong));
        }
    }

    private static void promise6B() {
        Subject x = example();
        Check.rowB("6", x, 2, 7, -1, 8);
        for (int wrong : new int[] {-1, 4, 255, LEAST, MOST}) {
            Check.throwing("6 b(" + wrong + ")", Check.INDEX, () -> x.b(wrong));
        }
    }

    private static void promise7Swap() {
        Subject x = example();
        x.fold(2);
        x.swap();
        Check.rowA("7 swap", x, 2, 7, -1, 8);
        Check.rowB("7 swap", x, 3, -1, 4, 1);
        Check.results("7 swap", x, 6, 19, -2, 55, -5, 31, 8);
        x.setA(0, 11);
        Check.equal("7 setA after swap leaves B", 3, x.b(0));
        x.swap();
        Check.rowA("7 swap twice", x, 3, -1, 4, 1);
        Check.rowB("7 swap twice", x, 11, 7, -1, 8);
    }

    private static void promise8FoldEachKind() {
        Subject x = example();
        Check.equal("8 fold(0)", 4, x.fold(0));
        Check.results("8 fold(0)", x, 1, 50, 6, 55);
        Check.equal("8 fold(1)", 4, x.fold(1));
        Check.results("8 fold(1)", x, 11, -12, -10, 55);
        Check.equal("8 fold(2)", 7, x.fold(2));
        Check.results("8 fold(2)", x, 6, 19, -2, 55, -5, 31, 8);
        Check.equal("8 fold(0) after fold(2)", 4, x.fold(0));
        Check.results("8 fold(0) after fold(2)", x, 1, 50, 6, 55);
        Check.rowA("8 fold leaves A", x, 3, -1, 4, 1);
        Check.rowB("8 fold leaves B", x, 2, 7, -1, 8);
    }

    private static void promise8FoldSmallest() {
        Subject x = new Subject();
        x.withA(5, -6);
        x.withB(7, 9);
        Check.equal("8 n 2: fold(0)", 2, x.fold(0));
        Check.results("8 n 2: fold(0)", x, 35 - 54, 45 - 42);
        Check.equal("8 n 2: fold(1)", 2, x.fold(1));
        Check.results("8 n 2: fold(1)", x, 35 + 54, 45 - 42);
        Check.equal("8 n 2: fold(2)", 3, x.fold(2));
        Check.results("8 n 2: fold(2)", x, 35, 45 - 42, -54);
    }

    private static void promise8FoldWrong() {
        Subject x = example();
        Check.throwing("8 fold(3) on nothing folded", Check.ARGUMENT, () -> x.fold(3));
        Check.results("8 wrong fold on nothing folded", x);
        x.fold(1);
        for (int wrong : new int[] {-1, 3, LEAST, MOST}) {
            Check.throwing("8 fold(" + wrong + ")", Check.ARGUMENT, () -> x.fold(wrong));
        }
        Check.results("8 wrong fold", x, 11, -12, -10, 55);
    }

    private static void promise9Power() {
        Subject x = Subject.sized(2);
        x.withA(2, 7, -1, 8);
        x.withB(1, 2, 3, 4);
        Check.equal("9 power(1)", 2, x.power(1));
        Check.rowA("9 power(1)", x, 2, 7, -1, 8);
        Check.equal("9 power(2)", 117, x.power(2));
        Check.rowA("9 power(2)", x, 117, 12, 109, 18);
        Check.equal("9 power(3)", 6076512, x.power(3));
        Check.rowA("9 power(3)", x, 6076512, 2311452, 6076864, 2312388);
        Check.rowB("9 power leaves B", x, 1, 2, 3, 4);
    }

    private static void promise9PowerCutsToInts() {
        int due = 1;
        for (int e = 1; e <= 1000; e++) {
            due *= -3;
            Subject x = new Subject().withA(-3, 0);
            Check.equal("9 power(" + e + ") of -3", due, x.power(e));
            Check.equal("9 a(0) after power(" + e + ") of -3", due, x.a(0));
            Check.equal("9 a(1) after power(" + e + ") of -3", 0, x.a(1));
        }
        Subject x = new Subject().withA(LEAST, MOST);
        Check.equal("9 power(2) of the extremes", 1, x.power(2));
        Check.rowA("9 power(2) of the extremes", x, 1, LEAST * MOST * 2);
    }

    /** A row that is 1 at one place turns round by that place with each factor. */
    private static void promise9PowerOfAShift() {
        for (int k = 1; k <= 8; k++) {
            int n = 1 << k;
            for (int e : new int[] {1, 2, 3, 255, 256, 257, 511, 512, 513, 767, 999, 1000}) {
                Subject x = Subject.sized(k);
                x.setA(n - 1, 1);
                int there = e * (n - 1) % n;
                Check.equal("9 n " + n + ": power(" + e + ") of a shift", there == 0 ? 1 : 0, x.power(e));
                Check.equal("9 n " + n + ": a(" + there + ") after power(" + e + ")", 1, x.a(there));
            }
        }
    }

    private static void promise9PowerLeavesTheLastResult() {
        Subject x = example();
        x.power(2);
        Check.results("9 power on nothing folded", x);
        Check.throwing("9 power on nothing folded: keep()", Check.STATE, x::keep);
        x.withA(3, -1, 4, 1);
        x.fold(2);
        x.power(7);
        Check.results("9 power after fold(2)", x, 6, 19, -2, 55, -5, 31, 8);
    }

    private static void promise9PowerWrong() {
        Subject x = example();
        x.fold(0);
        for (int wrong : new int[] {0, -1, 1001, 1024, LEAST, MOST}) {
            Check.throwing("9 power(" + wrong + ")", Check.ARGUMENT, () -> x.power(wrong));
        }
        Check.rowA("9 wrong power", x, 3, -1, 4, 1);
        Check.results("9 wrong power", x, 1, 50, 6, 55);
    }

    private static void promise10Low() {
        Subject x = new Subject();
        x.withA(LEAST, LEAST);
        x.withB(LEAST, LEAST);
        x.fold(0);
        Check.equal("10 2^63 cut to 64 bits", Long.MIN_VALUE, x.low(0));
        Check.equal("10 2^63 cut to 64 bits", Long.MIN_VALUE, x.low(1));
        x.fold(2);
        Check.equal("10 2^62", 1L << 62, x.low(0));
        x.withB(MOST, 0);
        x.fold(2);
        Check.equal("10 -2^62 + 2^31", -(1L << 62) + (1L << 31), x.low(0));
    }

    private static void promise11High() {
        Subject x = new Subject();
        x.withA(LEAST, LEAST);
        x.withB(LEAST, LEAST);
        x.fold(0);
        Check.equal("11 2^63 by 2^64", 0, x.high(0));
        x.withA(-1, 0);
        x.withB(1, 0);
        x.fold(0);
        Check.equal("11 -1 by 2^64", -1, x.high(0));
        Check.equal("11 0 by 2^64", 0, x.high(1));
    }

    /** Where the remainders modulo two of the primes are 0 or next to it. */
    private static void promise10To12NearProductsOfPrimes() {
        for (int one : PRIMES) {
            for (int other : PRIMES) {
                for (int more = -1; more <= 1; more++) {
                    Subject x = new Subject();
                    x.withA(one, more);
                    x.withB(other, 1);
                    long product = (long) one * other;
                    x.fold(0);
                    Check.results("10 to 12 near a product", x, product + more, one + (long) more * other);
                    x.withB(-other, 1);
                    x.fold(0);
                    Check.results("10 to 12 near minus a product", x,
                            -product + more, one - (long) more * other);
                }
            }
        }
    }

    private static void promise12Rest() {
        Subject x = new Subject();
        for (int prime = 0; prime < 3; prime++) {
            x.withA(PRIMES[prime], 1);
            x.withB(1, 1);
            x.fold(2);
            Check.equal("12 p + 0", 0, x.rest(prime, 0));
            Check.equal("12 p + 1", 1, x.rest(prime, 1));
            x.withA(-PRIMES[prime], -1);
            x.fold(2);
            Check.equal("12 -p", 0, x.rest(prime, 0));
            Check.equal("12 -p - 1", PRIMES[prime] - 1, x.rest(prime, 1));
            Check.equal("12 -1", PRIMES[prime] - 1, x.rest(prime, 2));
        }
        for (int wrong : new int[] {-1, 3, LEAST, MOST}) {
            Check.throwing("12 rest(" + wrong + ", 0)", Check.ARGUMENT, () -> x.rest(wrong, 0));
            Check.throwing("12 rest(" + wrong + ", 9)", Check.ARGUMENT, () -> x.rest(wrong, 9));
            Check.throwing("12 rest(0, " + wrong + ")", Check.INDEX, () -> x.rest(0, wrong));
        }
        Subject fresh = new Subject();
        Check.throwing("12 rest(3, 0) on nothing folded", Check.ARGUMENT, () -> fresh.rest(3, 0));
    }

    private static void promise13Value() {
        Subject x = Subject.sized(2);
        x.withA(3, -1, 4, 1);
        int[][] due = {
            {7, 173167435, 7, 825076916},
            {7, 37272224, 7, 130499935},
            {7, 39220181, 7, 430541866}
        };
        for (int prime = 0; prime < 3; prime++) {
            checkValues(x, prime);
            for (int i = 0; i < 4; i++) {
                Check.equal("13 value(" + prime + ", " + i + ")", due[prime][i], x.value(prime, i));
            }
        }
        x.withA(LEAST, LEAST, LEAST, LEAST);
        for (int prime = 0; prime < 3; prime++) {
            Check.equal("13 a row of one number has values 0", 0, x.value(prime, 1));
            Check.equal("13 but for the first", Math.floorMod(4L * LEAST, PRIMES[prime]), x.value(prime, 0));
        }
        Check.rowA("13 value leaves A", x, LEAST, LEAST, LEAST, LEAST);
        checkWrongPlaces("13 value", x::value);
    }

    /** The sum of A(j) w^(i j), term by term from root() and product(). */
    private static void checkValues(Subject x, int prime) {
        for (int i = 0; i < 4; i++) {
            long sum = 0;
            for (int j = 0; j < 4; j++) {
                sum += x.product(prime, x.a(j), x.root(prime, i * j));
            }
            Check.equal("13 value(" + prime + ", " + i + ")", sum % PRIMES[prime], x.value(prime, i));
        }
    }

    private interface OfPrimeAndPlace {
        int call(int prime, int i);
    }

    private static void checkWrongPlaces(String name, OfPrimeAndPlace method) {
        for (int wrong : new int[] {-1, 4, LEAST, MOST}) {
            Check.throwing(name + "(" + wrong + ", 0)", Check.ARGUMENT, () -> method.call(wrong, 0));
            Check.throwing(name + "(" + wrong + ", -1)", Check.ARGUMENT, () -> method.call(wrong, -1));
            Check.throwing(name + "(2, " + wrong + ")", Check.INDEX, () -> method.call(2, wrong));
        }
        Check.throwing(name + "(3, 0)", Check.ARGUMENT, () -> method.call(3, 0));
    }

    private static void promise14Back() {
        Subject x = Subject.sized(2);
        x.withA(3, -1, 4, 1);
        int[][] due = {
            {249561090, 206269229, 249561090, 292852947},
            {41943042, 74568024, 41943042, 9318056},
            {117440514, 342516491, 117440514, 362126582}
        };
        for (int prime = 0; prime < 3; prime++) {
            for (int i = 0; i < 4; i++) {
                Check.equal("14 back(" + prime + ", " + i + ")", due[prime][i], x.back(prime, i));
                long sum = 0;
                for (int j = 0; j < 4; j++) {
                    sum += x.product(prime, x.a(j), x.root(prime, -i * j));
                }
                Check.equal("14 n back(" + prime + ", " + i + ")",
                        sum % PRIMES[prime], 4L * x.back(prime, i) % PRIMES[prime]);
            }
        }
        x.withA(-4, -4, -4, -4);
        Check.equal("14 values all -4: the row's first number", 998244349, x.back(0, 0));
        Check.equal("14 values all -4: the row's next number", 0, x.back(0, 1));
        Check.rowA("14 back leaves A", x, -4, -4, -4, -4);
        checkWrongPlaces("14 back", x::back);
    }

    private static void promise15Keep() {
        Subject x = example();
        x.fold(2);
        x.keep();
        Check.rowA("15 keep() of fold(2)", x, 6, 19, -2, 55);
        Check.rowB("15 keep() leaves B", x, 2, 7, -1, 8);
        Check.results("15 keep() leaves the results", x, 6, 19, -2, 55, -5, 31, 8);
        x.withA(0, 0, 0, 0);
        x.keep();
        Check.rowA("15 keep() again", x, 6, 19, -2, 55);
        x.swap();
        x.keep();
        Check.rowA("15 keep() after swap", x, 6, 19, -2, 55);
        Check.rowB("15 keep() after swap", x, 6, 19, -2, 55);
        x.size(1);
        x.withA(MOST, LEAST);
        x.withB(MOST, 3);
        x.fold(1);
        x.keep();
        // (2^31 - 1)^2 + 3 2^31 and 3 (2^31 - 1) - 2^31 (2^31 - 1), their lowest 32 bits.
        Check.rowA("15 keep() cuts", x, 1 + LEAST, -3);
    }

    private static void promise15KeepWrong() {
        Subject x = example();
        Check.throwing("15 keep() on nothing folded", Check.STATE, x::keep);
        Check.rowA("15 wrong keep()", x, 3, -1, 4, 1);
        x.fold(0);
        x.size(2);
        Check.throwing("15 keep() after size", Check.STATE, x::keep);
    }

    private static void promise16Product() {
        Subject x = new Subject();
        Check.equal("16 product(0, 6, 7)", 42, x.product(0, 6, 7));
        Check.equal("16 product(0, -1, -1)", 1, x.product(0, -1, -1));
        Check.equal("16 product(1, least, most)", 40265142, x.product(1, LEAST, MOST));
        Check.equal("16 product(2, 998244353, 5)", 293601275, x.product(2, 998244353, 5));
        int[] numbers = {0, 1, -1, LEAST, MOST, 998244353, -167772161, 469762048};
        for (int prime = 0; prime < 3; prime++) {
            for (int one : numbers) {
                for (int other : numbers) {
                    Check.equal("16 product(" + prime + ", " + one + ", " + other + ")",
                            Math.floorMod((long) one * other, PRIMES[prime]), x.product(prime, one, other));
                }
            }
        }
        for (int wrong : new int[] {-1, 3, LEAST, MOST}) {
            Check.throwing("16 product(" + wrong + ", 1, 1)", Check.ARGUMENT, () -> x.product(wrong, 1, 1));
        }
    }

    private static void promise17Root() {
        Subject x = Subject.sized(8);
        Check.equal("17 n 256: root(0, 1)", 476477967, x.root(0, 1));
        Check.equal("17 n 256: root(1, 1)", 26238939, x.root(1, 1));
        Check.equal("17 n 256: root(2, 255)", 215855482, x.root(2, 255));
        for (int k = 1; k <= 8; k++) {
            for (int prime = 0; prime < 3; prime++) {
                checkRoots(k, prime);
            }
        }
        for (int wrong : new int[] {-1, 3, LEAST, MOST}) {
            Check.throwing("17 root(" + wrong + ", 1)", Check.ARGUMENT, () -> x.root(wrong, 1));
        }
    }

    private static void checkRoots(int k, int prime) {
        Subject above = Subject.sized(k);
        Subject below = Subject.sized(k);
        String what = "17 n " + (1 << k) + ", prime " + prime + ": root to the ";
        long p = PRIMES[prime];
        long w = above.root(prime, 1);
        long due = 1;
        for (int e = 0; e < 1 << k; e++) {
            Check.equal(what + e, due, above.root(prime, e));
            Check.equal(what + -e + " is the inverse", 1, due * below.root(prime, -e) % p);
            due = due * w % p;
        }
        Check.equal("17 the root to the n", 1, due);
    }

    private static void promise10To12ResultsOutliveTheRows() {
        Subject x = example();
        x.fold(0);
        x.withA(9, 9, 9, 9);
        x.withB(8, 8, 8, 8);
        Check.results("10 to 12 after setA and setB", x, 1, 50, 6, 55);
    }
}
