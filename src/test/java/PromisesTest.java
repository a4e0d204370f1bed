/** Each promise of ../shared/DOC.md by its number: ordinary inputs, the edges, wrong inputs. */
public final class PromisesTest {
    private static final Class<IllegalArgumentException> ARGUMENT = IllegalArgumentException.class;
    private static final Class<IndexOutOfBoundsException> INDEX = IndexOutOfBoundsException.class;
    private static final Class<IllegalStateException> STATE = IllegalStateException.class;
    private static final int LEAST = Integer.MIN_VALUE;
    private static final int MOST = Integer.MAX_VALUE;
    private static final int[] PRIMES = {998244353, 167772161, 469762049};

    public static void main(String[] args) {
        promise1NewObject();
        promise2Size();
        promise2SizeWrong();
        promise3SetA();
        promise4SetB();
        promise5A();
        promise6B();
        promise7Swap();
        promise8FoldEachKind();
        promise8FoldSmallest();
        promise8FoldLargest();
        promise8FoldWrong();
        promise9Power();
        promise9PowerCutsToInts();
        promise9PowerOfAShift();
        promise9PowerLeavesTheLastResult();
        promise9PowerWrong();
        promise10Low();
        promise11High();
        promise10And11Extremes();
        promise10To12NearProductsOfPrimes();
        promise12Rest();
        promise13Value();
        promise14Back();
        promise13And14UndoEachOther();
        promise15Keep();
        promise15KeepWrong();
        promise16Product();
        promise17Root();
        resultsOutliveTheRows();
        Check.end();
    }

    private static ThreePrimes sized(int k) {
        ThreePrimes x = new ThreePrimes();
        x.size(k);
        return x;
    }

    private static void fillA(ThreePrimes x, int... numbers) {
        for (int i = 0; i < numbers.length; i++) {
            x.setA(i, numbers[i]);
        }
    }

    private static void fillB(ThreePrimes x, int... numbers) {
        for (int i = 0; i < numbers.length; i++) {
            x.setB(i, numbers[i]);
        }
    }

    private static void checkA(String what, ThreePrimes x, int... due) {
        for (int i = 0; i < due.length; i++) {
            Check.equal(what + ": a(" + i + ")", due[i], x.a(i));
        }
    }

    private static void checkB(String what, ThreePrimes x, int... due) {
        for (int i = 0; i < due.length; i++) {
            Check.equal(what + ": b(" + i + ")", due[i], x.b(i));
        }
    }

    /** The results are these small numbers and no more. */
    private static void checkResults(String what, ThreePrimes x, long... due) {
        for (int i = 0; i < due.length; i++) {
            Check.equal(what + ": low(" + i + ")", due[i], x.low(i));
            Check.equal(what + ": high(" + i + ")", due[i] < 0 ? -1 : 0, x.high(i));
            for (int prime = 0; prime < 3; prime++) {
                Check.equal(what + ": rest(" + prime + ", " + i + ")",
                        Math.floorMod(due[i], PRIMES[prime]), x.rest(prime, i));
            }
        }
        checkNoResult(what, x, due.length);
        checkNoResult(what, x, -1);
    }

    private static void checkNoResult(String what, ThreePrimes x, int i) {
        Check.throwing(what + ": low(" + i + ")", INDEX, () -> x.low(i));
        Check.throwing(what + ": high(" + i + ")", INDEX, () -> x.high(i));
        for (int p = 0; p < 3; p++) {
            int prime = p;
            Check.throwing(what + ": rest(" + prime + ", " + i + ")", INDEX, () -> x.rest(prime, i));
        }
    }

    private static ThreePrimes example() {
        ThreePrimes x = sized(2);
        fillA(x, 3, -1, 4, 1);
        fillB(x, 2, 7, -1, 8);
        return x;
    }

    private static void promise1NewObject() {
        ThreePrimes x = new ThreePrimes();
        checkA("1 new", x, 0, 0);
        checkB("1 new", x, 0, 0);
        Check.throwing("1 new: a(2)", INDEX, () -> x.a(2));
        Check.throwing("1 new: b(2)", INDEX, () -> x.b(2));
        checkResults("1 new", x);
        Check.throwing("1 new: keep()", STATE, x::keep);
        Check.equal("1 new: fold(0)", 2, x.fold(0));
        Check.equal("1 new: root(0, 1) for n 2", 998244352, x.root(0, 1));
        ThreePrimes other = new ThreePrimes();
        other.setA(0, 9);
        Check.equal("1 objects share no row", 0, x.a(0));
    }

    private static void promise2Size() {
        for (int k = 1; k <= 8; k++) {
            ThreePrimes x = sized(k);
            int n = 1 << k;
            Check.equal("2 size(" + k + "): setA at the last place", 0, x.setA(n - 1, 5));
            Check.equal("2 size(" + k + "): setB at the last place", 0, x.setB(n - 1, 6));
            Check.throwing("2 size(" + k + "): setA behind it", INDEX, () -> x.setA(n, 5));
            Check.equal("2 size(" + k + "): fold(1)", n, x.fold(1));
            Check.equal("2 size(" + k + "): fold(2)", 2 * n - 1, x.fold(2));
            x.size(k);
            Check.equal("2 size(" + k + ") again: A", 0, x.a(n - 1));
            Check.equal("2 size(" + k + ") again: B", 0, x.b(n - 1));
            checkResults("2 size(" + k + ") again", x);
            Check.throwing("2 size(" + k + ") again: keep()", STATE, x::keep);
        }
        ThreePrimes x = example();
        x.size(1);
        x.size(3);
        checkA("2 smaller, then larger", x, 0, 0, 0, 0, 0, 0, 0, 0);
        checkB("2 smaller, then larger", x, 0, 0, 0, 0, 0, 0, 0, 0);
    }

    private static void promise2SizeWrong() {
        ThreePrimes x = example();
        x.fold(0);
        for (int wrong : new int[] {0, 9, -1, 33, LEAST, MOST}) {
            Check.throwing("2 size(" + wrong + ")", ARGUMENT, () -> x.size(wrong));
        }
        checkA("2 wrong size", x, 3, -1, 4, 1);
        checkB("2 wrong size", x, 2, 7, -1, 8);
        checkResults("2 wrong size", x, 1, 50, 6, 55);
    }

    private static void promise3SetA() {
        ThreePrimes x = sized(2);
        Check.equal("3 setA(1, least)", 0, x.setA(1, LEAST));
        Check.equal("3 setA(1, most)", LEAST, x.setA(1, MOST));
        Check.equal("3 setA(3, -7)", 0, x.setA(3, -7));
        for (int wrong : new int[] {-1, 4, 255, LEAST, MOST}) {
            Check.throwing("3 setA(" + wrong + ", 1)", INDEX, () -> x.setA(wrong, 1));
        }
        checkA("3", x, 0, MOST, 0, -7);
        checkB("3", x, 0, 0, 0, 0);
    }

    private static void promise4SetB() {
        ThreePrimes x = sized(2);
        Check.equal("4 setB(1, least)", 0, x.setB(1, LEAST));
        Check.equal("4 setB(1, most)", LEAST, x.setB(1, MOST));
        Check.equal("4 setB(3, -7)", 0, x.setB(3, -7));
        for (int wrong : new int[] {-1, 4, 255, LEAST, MOST}) {
            Check.throwing("4 setB(" + wrong + ", 1)", INDEX, () -> x.setB(wrong, 1));
        }
        checkB("4", x, 0, MOST, 0, -7);
        checkA("4", x, 0, 0, 0, 0);
    }

    private static void promise5A() {
        ThreePrimes x = example();
        checkA("5", x, 3, -1, 4, 1);
        for (int wrong : new int[] {-1, 4, 255, LEAST, MOST}) {
            Check.throwing("5 a(" + wrong + ")", INDEX, () -> x.a(wrong));
        }
    }

    private static void promise6B() {
        ThreePrimes x = example();
        checkB("6", x, 2, 7, -1, 8);
        for (int wrong : new int[] {-1, 4, 255, LEAST, MOST}) {
            Check.throwing("6 b(" + wrong + ")", INDEX, () -> x.b(wrong));
        }
    }

    private static void promise7Swap() {
        ThreePrimes x = example();
        x.fold(2);
        x.swap();
        checkA("7 swap", x, 2, 7, -1, 8);
        checkB("7 swap", x, 3, -1, 4, 1);
        checkResults("7 swap", x, 6, 19, -2, 55, -5, 31, 8);
        x.setA(0, 11);
        Check.equal("7 setA after swap leaves B", 3, x.b(0));
        x.swap();
        checkA("7 swap twice", x, 3, -1, 4, 1);
        checkB("7 swap twice", x, 11, 7, -1, 8);
    }

    private static void promise8FoldEachKind() {
        ThreePrimes x = example();
        Check.equal("8 fold(0)", 4, x.fold(0));
        checkResults("8 fold(0)", x, 1, 50, 6, 55);
        Check.equal("8 fold(1)", 4, x.fold(1));
        checkResults("8 fold(1)", x, 11, -12, -10, 55);
        Check.equal("8 fold(2)", 7, x.fold(2));
        checkResults("8 fold(2)", x, 6, 19, -2, 55, -5, 31, 8);
        Check.equal("8 fold(0) after fold(2)", 4, x.fold(0));
        checkResults("8 fold(0) after fold(2)", x, 1, 50, 6, 55);
        checkA("8 fold leaves A", x, 3, -1, 4, 1);
        checkB("8 fold leaves B", x, 2, 7, -1, 8);
    }

    private static void promise8FoldSmallest() {
        ThreePrimes x = new ThreePrimes();
        fillA(x, 5, -6);
        fillB(x, 7, 9);
        Check.equal("8 n 2: fold(0)", 2, x.fold(0));
        checkResults("8 n 2: fold(0)", x, 35 - 54, 45 - 42);
        Check.equal("8 n 2: fold(1)", 2, x.fold(1));
        checkResults("8 n 2: fold(1)", x, 35 + 54, 45 - 42);
        Check.equal("8 n 2: fold(2)", 3, x.fold(2));
        checkResults("8 n 2: fold(2)", x, 35, 45 - 42, -54);
    }

    /** Two rows with one number each, so that the one result's place and sign are known. */
    private static void promise8FoldLargest() {
        ThreePrimes x = sized(8);
        x.setA(255, -3);
        x.setB(254, 5);
        long[] round = new long[256];
        round[253] = -15;
        Check.equal("8 n 256: fold(0)", 256, x.fold(0));
        checkResults("8 n 256: fold(0)", x, round);
        round[253] = 15;
        Check.equal("8 n 256: fold(1)", 256, x.fold(1));
        checkResults("8 n 256: fold(1)", x, round);
        long[] straight = new long[511];
        straight[509] = -15;
        Check.equal("8 n 256: fold(2)", 511, x.fold(2));
        checkResults("8 n 256: fold(2)", x, straight);
    }

    private static void promise8FoldWrong() {
        ThreePrimes x = example();
        Check.throwing("8 fold(3) on nothing folded", ARGUMENT, () -> x.fold(3));
        checkResults("8 wrong fold on nothing folded", x);
        x.fold(1);
        for (int wrong : new int[] {-1, 3, LEAST, MOST}) {
            Check.throwing("8 fold(" + wrong + ")", ARGUMENT, () -> x.fold(wrong));
        }
        checkResults("8 wrong fold", x, 11, -12, -10, 55);
    }

    private static void promise9Power() {
        ThreePrimes x = sized(2);
        fillA(x, 2, 7, -1, 8);
        fillB(x, 1, 2, 3, 4);
        Check.equal("9 power(1)", 2, x.power(1));
        checkA("9 power(1)", x, 2, 7, -1, 8);
        Check.equal("9 power(2)", 117, x.power(2));
        checkA("9 power(2)", x, 117, 12, 109, 18);
        Check.equal("9 power(3)", 6076512, x.power(3));
        checkA("9 power(3)", x, 6076512, 2311452, 6076864, 2312388);
        checkB("9 power leaves B", x, 1, 2, 3, 4);
    }

    private static void promise9PowerCutsToInts() {
        ThreePrimes x = new ThreePrimes();
        int due = 1;
        for (int e = 1; e <= 1000; e++) {
            due *= -3;
            fillA(x, -3, 0);
            Check.equal("9 power(" + e + ") of -3", due, x.power(e));
            Check.equal("9 a(0) after power(" + e + ") of -3", due, x.a(0));
            Check.equal("9 a(1) after power(" + e + ") of -3", 0, x.a(1));
        }
        fillA(x, LEAST, MOST);
        Check.equal("9 power(2) of the extremes", 1, x.power(2));
        checkA("9 power(2) of the extremes", x, 1, LEAST * MOST * 2);
    }

    /** A row that is 1 at one place turns round by that place with each factor. */
    private static void promise9PowerOfAShift() {
        for (int k = 1; k <= 8; k++) {
            int n = 1 << k;
            for (int e : new int[] {1, 2, 3, 255, 256, 257, 511, 512, 513, 767, 999, 1000}) {
                ThreePrimes x = sized(k);
                x.setA(n - 1, 1);
                int there = e * (n - 1) % n;
                Check.equal("9 n " + n + ": power(" + e + ") of a shift", there == 0 ? 1 : 0, x.power(e));
                Check.equal("9 n " + n + ": a(" + there + ") after power(" + e + ")", 1, x.a(there));
            }
        }
    }

    private static void promise9PowerLeavesTheLastResult() {
        ThreePrimes x = example();
        x.power(2);
        checkResults("9 power on nothing folded", x);
        Check.throwing("9 power on nothing folded: keep()", STATE, x::keep);
        fillA(x, 3, -1, 4, 1);
        x.fold(2);
        x.power(7);
        checkResults("9 power after fold(2)", x, 6, 19, -2, 55, -5, 31, 8);
    }

    private static void promise9PowerWrong() {
        ThreePrimes x = example();
        x.fold(0);
        for (int wrong : new int[] {0, -1, 1001, 1024, LEAST, MOST}) {
            Check.throwing("9 power(" + wrong + ")", ARGUMENT, () -> x.power(wrong));
        }
        checkA("9 wrong power", x, 3, -1, 4, 1);
        checkResults("9 wrong power", x, 1, 50, 6, 55);
    }

    private static void promise10Low() {
        ThreePrimes x = new ThreePrimes();
        fillA(x, LEAST, LEAST);
        fillB(x, LEAST, LEAST);
        x.fold(0);
        Check.equal("10 2^63 cut to 64 bits", Long.MIN_VALUE, x.low(0));
        Check.equal("10 2^63 cut to 64 bits", Long.MIN_VALUE, x.low(1));
        x.fold(2);
        Check.equal("10 2^62", 1L << 62, x.low(0));
        fillB(x, MOST, 0);
        x.fold(2);
        Check.equal("10 -2^62 + 2^31", -(1L << 62) + (1L << 31), x.low(0));
    }

    private static void promise11High() {
        ThreePrimes x = new ThreePrimes();
        fillA(x, LEAST, LEAST);
        fillB(x, LEAST, LEAST);
        x.fold(0);
        Check.equal("11 2^63 by 2^64", 0, x.high(0));
        fillA(x, -1, 0);
        fillB(x, 1, 0);
        x.fold(0);
        Check.equal("11 -1 by 2^64", -1, x.high(0));
        Check.equal("11 0 by 2^64", 0, x.high(1));
    }

    /** All lowest ints: place i of the straight folding has i + 1 (or 511 - i) times 2^62. */
    private static void promise10And11Extremes() {
        ThreePrimes x = sized(8);
        for (int i = 0; i < 256; i++) {
            x.setA(i, LEAST);
            x.setB(i, LEAST);
        }
        x.fold(0);
        for (int i = 0; i < 256; i++) {
            checkMultipleOf2To62("10, 11 fold(0)", x, i, 256);
        }
        x.fold(1);
        for (int i = 0; i < 256; i++) {
            checkMultipleOf2To62("10, 11 fold(1)", x, i, 2 * i + 2 - 256);
        }
        x.fold(2);
        for (int i = 0; i < 511; i++) {
            checkMultipleOf2To62("10, 11 fold(2)", x, i, i < 256 ? i + 1 : 511 - i);
        }
        for (int i = 0; i < 256; i++) {
            x.setB(i, MOST);
        }
        x.fold(0);
        // -2^31 (2^31 - 1) 2^8 is -2^70 + 2^39.
        Check.equal("10 the lowest sum", 1L << 39, x.low(77));
        Check.equal("11 the lowest sum", -64, x.high(77));
    }

    private static void checkMultipleOf2To62(String what, ThreePrimes x, int i, int times) {
        Check.equal(what + ": low(" + i + ")", (long) times << 62, x.low(i));
        Check.equal(what + ": high(" + i + ")", times >> 2, x.high(i));
        for (int prime = 0; prime < 3; prime++) {
            int p = PRIMES[prime];
            Check.equal(what + ": rest(" + prime + ", " + i + ")",
                    Math.floorMod((1L << 62) % p * times, p), x.rest(prime, i));
        }
    }

    /** Where the remainders modulo two of the primes are 0 or next to it. */
    private static void promise10To12NearProductsOfPrimes() {
        ThreePrimes x = new ThreePrimes();
        for (int one : PRIMES) {
            for (int other : PRIMES) {
                for (int more = -1; more <= 1; more++) {
                    fillA(x, one, more);
                    fillB(x, other, 1);
                    long product = (long) one * other;
                    x.fold(0);
                    checkResults("10 to 12 near a product", x, product + more, one + (long) more * other);
                    fillB(x, -other, 1);
                    x.fold(0);
                    checkResults("10 to 12 near minus a product", x,
                            -product + more, one - (long) more * other);
                }
            }
        }
    }

    private static void promise12Rest() {
        ThreePrimes x = new ThreePrimes();
        for (int prime = 0; prime < 3; prime++) {
            fillA(x, PRIMES[prime], 1);
            fillB(x, 1, 1);
            x.fold(2);
            Check.equal("12 p + 0", 0, x.rest(prime, 0));
            Check.equal("12 p + 1", 1, x.rest(prime, 1));
            fillA(x, -PRIMES[prime], -1);
            x.fold(2);
            Check.equal("12 -p", 0, x.rest(prime, 0));
            Check.equal("12 -p - 1", PRIMES[prime] - 1, x.rest(prime, 1));
            Check.equal("12 -1", PRIMES[prime] - 1, x.rest(prime, 2));
        }
        for (int wrong : new int[] {-1, 3, LEAST, MOST}) {
            Check.throwing("12 rest(" + wrong + ", 0)", ARGUMENT, () -> x.rest(wrong, 0));
            Check.throwing("12 rest(" + wrong + ", 9)", ARGUMENT, () -> x.rest(wrong, 9));
            Check.throwing("12 rest(0, " + wrong + ")", INDEX, () -> x.rest(0, wrong));
        }
        ThreePrimes fresh = new ThreePrimes();
        Check.throwing("12 rest(3, 0) on nothing folded", ARGUMENT, () -> fresh.rest(3, 0));
    }

    private static void promise13Value() {
        ThreePrimes x = sized(2);
        fillA(x, 3, -1, 4, 1);
        int[][] due = {
            {7, 173167435, 7, 825076916},
            {7, 37272224, 7, 130499935},
            {7, 39220181, 7, 430541866}
        };
        for (int prime = 0; prime < 3; prime++) {
            checkValues(x, prime);
            for (int i = 0; i < 4; i++) {
                Check.equal("13 value(" + prime + ", " + i + ")", due[prime][i], x.value(prime, i));
            }
        }
        fillA(x, LEAST, LEAST, LEAST, LEAST);
        for (int prime = 0; prime < 3; prime++) {
            Check.equal("13 a row of one number has values 0", 0, x.value(prime, 1));
            Check.equal("13 but for the first", Math.floorMod(4L * LEAST, PRIMES[prime]), x.value(prime, 0));
        }
        checkA("13 value leaves A", x, LEAST, LEAST, LEAST, LEAST);
        checkWrongPlaces("13 value", x::value);
    }

    /** The sum of A(j) w^(i j), term by term from root() and product(). */
    private static void checkValues(ThreePrimes x, int prime) {
        for (int i = 0; i < 4; i++) {
            long sum = 0;
            for (int j = 0; j < 4; j++) {
                sum += x.product(prime, x.a(j), x.root(prime, i * j));
            }
            Check.equal("13 value(" + prime + ", " + i + ")", sum % PRIMES[prime], x.value(prime, i));
        }
    }

    private interface OfPrimeAndPlace {
        int call(int prime, int i);
    }

    private static void checkWrongPlaces(String name, OfPrimeAndPlace method) {
        for (int wrong : new int[] {-1, 4, LEAST, MOST}) {
            Check.throwing(name + "(" + wrong + ", 0)", ARGUMENT, () -> method.call(wrong, 0));
            Check.throwing(name + "(" + wrong + ", -1)", ARGUMENT, () -> method.call(wrong, -1));
            Check.throwing(name + "(2, " + wrong + ")", INDEX, () -> method.call(2, wrong));
        }
        Check.throwing(name + "(3, 0)", ARGUMENT, () -> method.call(3, 0));
    }

    private static void promise14Back() {
        ThreePrimes x = sized(2);
        fillA(x, 3, -1, 4, 1);
        int[][] due = {
            {249561090, 206269229, 249561090, 292852947},
            {41943042, 74568024, 41943042, 9318056},
            {117440514, 342516491, 117440514, 362126582}
        };
        for (int prime = 0; prime < 3; prime++) {
            for (int i = 0; i < 4; i++) {
                Check.equal("14 back(" + prime + ", " + i + ")", due[prime][i], x.back(prime, i));
                long sum = 0;
                for (int j = 0; j < 4; j++) {
                    sum += x.product(prime, x.a(j), x.root(prime, -i * j));
                }
                Check.equal("14 n back(" + prime + ", " + i + ")",
                        sum % PRIMES[prime], 4L * x.back(prime, i) % PRIMES[prime]);
            }
        }
        fillA(x, -4, -4, -4, -4);
        Check.equal("14 values all -4: the row's first number", 998244349, x.back(0, 0));
        Check.equal("14 values all -4: the row's next number", 0, x.back(0, 1));
        checkA("14 back leaves A", x, -4, -4, -4, -4);
        checkWrongPlaces("14 back", x::back);
    }

    private static void promise13And14UndoEachOther() {
        for (int k = 1; k <= 8; k++) {
            int n = 1 << k;
            for (int prime = 0; prime < 3; prime++) {
                ThreePrimes row = sized(k);
                ThreePrimes values = sized(k);
                for (int i = 0; i < n; i++) {
                    row.setA(i, LEAST + 7919 * i * i);
                }
                for (int i = 0; i < n; i++) {
                    values.setA(i, row.value(prime, i));
                }
                for (int i = 0; i < n; i++) {
                    Check.equal("13, 14 n " + n + ": back(" + prime + ", " + i + ")",
                            Math.floorMod(row.a(i), PRIMES[prime]), values.back(prime, i));
                }
            }
        }
    }

    private static void promise15Keep() {
        ThreePrimes x = example();
        x.fold(2);
        x.keep();
        checkA("15 keep() of fold(2)", x, 6, 19, -2, 55);
        checkB("15 keep() leaves B", x, 2, 7, -1, 8);
        checkResults("15 keep() leaves the results", x, 6, 19, -2, 55, -5, 31, 8);
        fillA(x, 0, 0, 0, 0);
        x.keep();
        checkA("15 keep() again", x, 6, 19, -2, 55);
        x.swap();
        x.keep();
        checkA("15 keep() after swap", x, 6, 19, -2, 55);
        checkB("15 keep() after swap", x, 6, 19, -2, 55);
        x.size(1);
        fillA(x, MOST, LEAST);
        fillB(x, MOST, 3);
        x.fold(1);
        x.keep();
        // (2^31 - 1)^2 + 3 2^31 and 3 (2^31 - 1) - 2^31 (2^31 - 1), their lowest 32 bits.
        checkA("15 keep() cuts", x, 1 + LEAST, -3);
    }

    private static void promise15KeepWrong() {
        ThreePrimes x = example();
        Check.throwing("15 keep() on nothing folded", STATE, x::keep);
        checkA("15 wrong keep()", x, 3, -1, 4, 1);
        x.fold(0);
        x.size(2);
        Check.throwing("15 keep() after size", STATE, x::keep);
    }

    private static void promise16Product() {
        ThreePrimes x = new ThreePrimes();
        Check.equal("16 product(0, 6, 7)", 42, x.product(0, 6, 7));
        Check.equal("16 product(0, -1, -1)", 1, x.product(0, -1, -1));
        Check.equal("16 product(1, least, most)", 40265142, x.product(1, LEAST, MOST));
        Check.equal("16 product(2, 998244353, 5)", 293601275, x.product(2, 998244353, 5));
        int[] numbers = {0, 1, -1, LEAST, MOST, 998244353, -167772161, 469762048};
        for (int prime = 0; prime < 3; prime++) {
            for (int one : numbers) {
                for (int other : numbers) {
                    Check.equal("16 product(" + prime + ", " + one + ", " + other + ")",
                            Math.floorMod((long) one * other, PRIMES[prime]), x.product(prime, one, other));
                }
            }
        }
        for (int wrong : new int[] {-1, 3, LEAST, MOST}) {
            Check.throwing("16 product(" + wrong + ", 1, 1)", ARGUMENT, () -> x.product(wrong, 1, 1));
        }
    }

    private static void promise17Root() {
        ThreePrimes x = sized(8);
        Check.equal("17 n 256: root(0, 1)", 476477967, x.root(0, 1));
        Check.equal("17 n 256: root(1, 1)", 26238939, x.root(1, 1));
        Check.equal("17 n 256: root(2, 255)", 215855482, x.root(2, 255));
        for (int k = 1; k <= 8; k++) {
            x.size(k);
            for (int prime = 0; prime < 3; prime++) {
                checkRoots(x, prime, 1 << k);
            }
        }
        for (int wrong : new int[] {-1, 3, LEAST, MOST}) {
            Check.throwing("17 root(" + wrong + ", 1)", ARGUMENT, () -> x.root(wrong, 1));
        }
    }

    private static void checkRoots(ThreePrimes x, int prime, int n) {
        String what = "17 n " + n + ", prime " + prime + ": root to the ";
        int w = x.root(prime, 1);
        long due = 1;
        for (int e = 0; e < n; e++) {
            Check.equal(what + e, due, x.root(prime, e));
            Check.equal(what + -e + " is the inverse", 1, x.product(prime, x.root(prime, -e), (int) due));
            due = due * w % PRIMES[prime];
        }
        Check.equal(what + n, 1, x.root(prime, n));
        Check.equal(what + n / 2, PRIMES[prime] - 1, x.root(prime, n / 2));
        Check.equal(what + "least", 1, x.root(prime, LEAST));
        Check.equal(what + "most", x.root(prime, -1), x.root(prime, MOST));
    }

    private static void resultsOutliveTheRows() {
        ThreePrimes x = example();
        x.fold(0);
        fillA(x, 9, 9, 9, 9);
        fillB(x, 8, 8, 8, 8);
        checkResults("10 to 12 after setA and setB", x, 1, 50, 6, 55);
    }
}
