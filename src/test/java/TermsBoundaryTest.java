/** The boundary cases of 'What it is' and 'Terms' that belong to more than one promise. */
public final class TermsBoundaryTest {
    private static final int LEAST = Check.LEAST;
    private static final int MOST = Check.MOST;

    public static void main(String[] args) {
        Check.runTestsOf(TermsBoundaryTest.class);
    }

    /** What it is, all promises: "at most 512 calls": the 512th is answered, after plain calls. */
    private static void whatItIs512thCallAfterPlainCalls() {
        Subject x = Subject.sized(8);
        for (int i = 0; i < 255; i++) {
            x.setA(i, 1);
            x.setB(i, 1);
        }
        Check.equal("the calls left", 1, x.callsLeft());
        Check.equal("the 512th call", 511, x.fold(2));
    }

    /** What it is, all promises: the 512th call is answered after refused calls, which count too. */
    private static void whatItIs512thCallAfterRefusedCalls() {
        Subject x = Subject.sized(1).withA(3, 4).withB(5, 6);
        x.fold(2);
        while (x.callsLeft() > 1) {
            Check.throwing("size(9)", Check.ARGUMENT, () -> x.size(9));
        }
        Check.equal("the 512th call", 38, x.low(1));
    }

    /** What it is, promise 9: the dearest call, again and again, up to the 512th. */
    private static void whatItIs512CallsOfTheDearest() {
        Subject x = Subject.sized(8);
        x.setA(255, 1);
        int place = 255;
        while (x.callsLeft() > 1) {
            x.power(999);
            place = place * 999 % 256;
        }
        Check.equal("the 512th call", 1, x.a(place));
    }

    /** What it is, promises 2 and 8: sizes and foldings, again and again, up to the 512th. */
    private static void whatItIs512CallsOfSizesAndFoldings() {
        Subject x = new Subject();
        int n = 2;
        while (x.callsLeft() > 1) {
            int k = 1 + x.callsLeft() % 8;
            x.size(k);
            n = 1 << k;
            if (x.callsLeft() > 1) {
                Check.equal("fold(2) for n " + n, 2 * n - 1, x.fold(2));
            }
        }
        Check.equal("the 512th call", 0, x.b(n - 1));
    }

    /** Terms, promises 3 to 6 and 8: "ints with sign": A(j) and B(m) below 0 count as such. */
    private static void termsIntsWithSign() {
        long[][] pairs = {
            {-1, 1}, {1, -1}, {-1, -1}, {LEAST, 1}, {1, LEAST}, {LEAST, -1}, {LEAST, LEAST},
            {MOST, LEAST}, {MOST, MOST}, {LEAST, MOST}, {-2, MOST}
        };
        for (long[] pair : pairs) {
            Subject x = new Subject();
            x.setA(1, (int) pair[0]);
            x.setB(0, (int) pair[1]);
            Check.equal("a(1)", pair[0], x.a(1));
            Check.equal("b(0)", pair[1], x.b(0));
            for (int kind = 0; kind <= 2; kind++) {
                x.fold(kind);
                Check.result("fold(" + kind + ") of " + pair[0] + " and " + pair[1],
                        x, 1, pair[0] * pair[1]);
            }
        }
    }

    /** Terms, promises 12 to 14, 16, 17: each of the primes is the one told: p is 0, p - 1 is not. */
    private static void termsThePrimes() {
        int[] primes = {998244353, 167772161, 469762049};
        for (int prime = 0; prime < 3; prime++) {
            int p = primes[prime];
            Subject x = Subject.sized(1).withA(p, p - 1).withB(1, 0);
            x.fold(2);
            Check.equal("rest of p", 0, x.rest(prime, 0));
            Check.equal("rest of p - 1", p - 1, x.rest(prime, 1));
            Check.equal("product of p and 1", 0, x.product(prime, p, 1));
            Check.equal("product of p - 1 and 1", p - 1, x.product(prime, p - 1, 1));
            Check.equal("root to the 1 for n 2", p - 1, x.root(prime, 1));
            Check.equal("value at 0", p - 1, x.value(prime, 0));
            Check.equal("value at 1", 1, x.value(prime, 1));
            Check.equal("twice back at 0", p - 1, 2L * x.back(prime, 0) % p);
            Check.equal("twice back at 1", 1, 2L * x.back(prime, 1) % p);
        }
    }

    /** Terms, promises 12 to 14, 16 and 17: "REMAINDERS modulo p are 0 to p - 1", never below 0. */
    private static void termsRemaindersAreNotBelowZero() {
        int[] numbers = {LEAST, LEAST + 1, -998244354, -998244353, -2, -1, 0, 1, MOST};
        for (int one : numbers) {
            for (int other : numbers) {
                Subject x = Subject.sized(1).withA(one, other).withB(other, one);
                x.fold(1);
                for (int prime = 0; prime < 3; prime++) {
                    for (int i = 0; i < 2; i++) {
                        checkRemainder("rest", prime, x.rest(prime, i));
                        checkRemainder("value", prime, x.value(prime, i));
                        checkRemainder("back", prime, x.back(prime, i));
                    }
                    checkRemainder("product", prime, x.product(prime, one, other));
                    checkRemainder("root", prime, x.root(prime, one));
                }
            }
        }
    }

    private static void checkRemainder(String what, int prime, int got) {
        Check.that(what + "(" + prime + ") answered " + got + ", not 0 to p - 1",
                got >= 0 && got < Subject.PRIMES[prime]);
    }

    /** Terms, promises 12 to 14: "the one named first when several would do". */
    private static void termsFirstNamedException() {
        Subject x = new Subject();
        Check.throwing("rest(3, 0), nothing folded", Check.ARGUMENT, () -> x.rest(3, 0));
        Check.throwing("rest(-1, -1), nothing folded", Check.ARGUMENT, () -> x.rest(-1, -1));
        Check.throwing("value(3, 2)", Check.ARGUMENT, () -> x.value(3, 2));
        Check.throwing("value(-1, -1)", Check.ARGUMENT, () -> x.value(-1, -1));
        Check.throwing("back(3, 2)", Check.ARGUMENT, () -> x.back(3, 2));
        Check.throwing("back(-1, -1)", Check.ARGUMENT, () -> x.back(-1, -1));
        x.fold(0);
        Check.throwing("rest(3, 2), folded", Check.ARGUMENT, () -> x.rest(3, 2));
        Check.throwing("rest(-1, -1), folded", Check.ARGUMENT, () -> x.rest(-1, -1));
    }

    /** Terms, all promises: "a call that throws changes nothing", at the largest n too. */
    private static void termsRefusedCallsAtTheLargestN() {
        Subject x = Subject.filled(8, LEAST, MOST);
        x.setA(255, 5);
        x.fold(2);
        x.setB(0, 9);
        Check.throwing("size(9)", Check.ARGUMENT, () -> x.size(9));
        Check.throwing("setA(256, 1)", Check.INDEX, () -> x.setA(256, 1));
        Check.throwing("setB(256, 1)", Check.INDEX, () -> x.setB(256, 1));
        Check.throwing("a(256)", Check.INDEX, () -> x.a(256));
        Check.throwing("b(256)", Check.INDEX, () -> x.b(256));
        Check.throwing("fold(3)", Check.ARGUMENT, () -> x.fold(3));
        Check.throwing("power(1001)", Check.ARGUMENT, () -> x.power(1001));
        Check.throwing("low(511)", Check.INDEX, () -> x.low(511));
        Check.throwing("high(511)", Check.INDEX, () -> x.high(511));
        Check.throwing("rest(0, 511)", Check.INDEX, () -> x.rest(0, 511));
        Check.throwing("value(0, 256)", Check.INDEX, () -> x.value(0, 256));
        Check.throwing("back(0, 256)", Check.INDEX, () -> x.back(0, 256));
        Check.throwing("product(3, 1, 1)", Check.ARGUMENT, () -> x.product(3, 1, 1));
        Check.throwing("root(3, 1)", Check.ARGUMENT, () -> x.root(3, 1));
        Check.equal("a(0)", LEAST, x.a(0));
        Check.equal("a(255)", 5, x.a(255));
        Check.equal("b(0)", 9, x.b(0));
        Check.equal("b(255)", MOST, x.b(255));
        Check.result("the last result", x, 510, 5L * MOST);
        x.keep();
        Check.equal("the first result, kept", LEAST, x.a(0));
    }
}
