import java.math.BigInteger;
import java.util.ArrayList;
import java.util.List;

/** The boundary cases of promises 10 to 12: what is told of the last folding's results. */
public final class ResultsBoundaryTest {
    private static final int LEAST = Check.LEAST;
    private static final int MOST = Check.MOST;

    /** Results that no folding of n 2 or 4 has. */
    private static final int[] NEVER_RESULTS = {-1, -2, LEAST, LEAST + 1, 7, 8, 255, 256, 65536, MOST};
    private static final int[] NEVER_PRIMES = {-1, -2, -3, LEAST, LEAST + 1, 3, 4, 256, 65536, MOST};

    public static void main(String[] args) {
        Check.runTestsOf(ResultsBoundaryTest.class);
    }

    /** Promise 10: "there is no such result": none before a folding. */
    private static void promise10NothingFolded() {
        for (int i : new int[] {0, 1, 2, 3, -1, MOST}) {
            Refusal.checkOnUnfolded("10 low(" + i + ")", Check.INDEX, x -> x.low(i));
        }
    }

    /** Promise 10: "there is no such result": too small, too large. */
    private static void promise10NoSuchResult() {
        for (int i : NEVER_RESULTS) {
            Refusal.checkOnAll("10 low(" + i + ")", Check.INDEX, x -> x.low(i));
        }
    }

    /** Promise 10: the first and the last result, and none beside them, for every n and kind. */
    private static void promise10FirstAndLast() {
        for (int k = 1; k <= 8; k++) {
            for (int kind = 0; kind <= 2; kind++) {
                Subject x = ends(k);
                int count = x.fold(kind);
                String what = "10 n " + (1 << k) + " fold(" + kind + "): low";
                Check.equal(what + " first", firstDue(kind), x.low(0));
                Check.equal(what + " last", lastDue(kind), x.low(count - 1));
                Check.throwing(what + " before the first", Check.INDEX, () -> x.low(-1));
                Check.throwing(what + " behind the last", Check.INDEX, () -> x.low(count));
            }
        }
    }

    /** Promise 11: "there is no such result": none before a folding. */
    private static void promise11NothingFolded() {
        for (int i : new int[] {0, 1, 2, 3, -1, MOST}) {
            Refusal.checkOnUnfolded("11 high(" + i + ")", Check.INDEX, x -> x.high(i));
        }
    }

    /** Promise 11: "there is no such result": too small, too large. */
    private static void promise11NoSuchResult() {
        for (int i : NEVER_RESULTS) {
            Refusal.checkOnAll("11 high(" + i + ")", Check.INDEX, x -> x.high(i));
        }
    }

    /** Promise 11: the first and the last result, and none beside them, for every n and kind. */
    private static void promise11FirstAndLast() {
        for (int k = 1; k <= 8; k++) {
            for (int kind = 0; kind <= 2; kind++) {
                Subject x = ends(k);
                int count = x.fold(kind);
                String what = "11 n " + (1 << k) + " fold(" + kind + "): high";
                Check.equal(what + " first", firstDue(kind) < 0 ? -1 : 0, x.high(0));
                Check.equal(what + " last", lastDue(kind) < 0 ? -1 : 0, x.high(count - 1));
                Check.throwing(what + " before the first", Check.INDEX, () -> x.high(-1));
                Check.throwing(what + " behind the last", Check.INDEX, () -> x.high(count));
            }
        }
    }

    /** Promise 12: "there is no such result": none before a folding. */
    private static void promise12NothingFolded() {
        for (int prime = 0; prime < 3; prime++) {
            int good = prime;
            for (int i : new int[] {0, 1, 2, 3, -1, MOST}) {
                Refusal.checkOnUnfolded("12 rest(" + prime + ", " + i + ")", Check.INDEX,
                        x -> x.rest(good, i));
            }
        }
    }

    /** Promise 12: "there is no such result": too small, too large. */
    private static void promise12NoSuchResult() {
        for (int prime = 0; prime < 3; prime++) {
            int good = prime;
            for (int i : NEVER_RESULTS) {
                Refusal.checkOnAll("12 rest(" + prime + ", " + i + ")", Check.INDEX,
                        x -> x.rest(good, i));
            }
        }
    }

    /** Promise 12: the first and the last result, and none beside them, for every n and kind. */
    private static void promise12FirstAndLast() {
        for (int k = 1; k <= 8; k++) {
            for (int kind = 0; kind <= 2; kind++) {
                Subject x = ends(k);
                int count = x.fold(kind);
                for (int prime = 0; prime < 3; prime++) {
                    checkFirstAndLastRest(x, prime, kind, count);
                }
            }
        }
    }

    private static void checkFirstAndLastRest(Subject x, int prime, int kind, int count) {
        String what = "12 fold(" + kind + ") to " + count + ": rest(" + prime + ")";
        int p = Subject.PRIMES[prime];
        Check.equal(what + " first", Math.floorMod(firstDue(kind), p), x.rest(prime, 0));
        Check.equal(what + " last", Math.floorMod(lastDue(kind), p), x.rest(prime, count - 1));
        Check.throwing(what + " before the first", Check.INDEX, () -> x.rest(prime, -1));
        Check.throwing(what + " behind the last", Check.INDEX, () -> x.rest(prime, count));
    }

    /** A(0) is 3, A(1) and A(n - 1) are -5, B(0) is 7, B(n - 1) is 11; for n 2 places 1 and n - 1 are one. */
    private static Subject ends(int k) {
        Subject x = Subject.sized(k);
        int last = (1 << k) - 1;
        x.setA(0, 3);
        x.setA(last, -5);
        x.setB(0, 7);
        x.setB(last, 11);
        if (k > 1) {
            x.setA(1, -5);
        }
        return x;
    }

    /** 3 times 7, and -5 times 11 round (place 1 with n - 1), which kind 1 takes away. */
    private static long firstDue(int kind) {
        return kind == 0 ? 21 - 55 : kind == 1 ? 21 + 55 : 21;
    }

    /** 3 times 11 and -5 times 7; or -5 times 11 at the very end of the straight folding. */
    private static long lastDue(int kind) {
        return kind == 2 ? -55 : 33 - 35;
    }

    /** Promise 12: "prime is not 0 to 2", with a result that is there and without. */
    private static void promise12NoSuchPrime() {
        for (int prime : NEVER_PRIMES) {
            Refusal.checkOnAll("12 rest(" + prime + ", 0)", Check.ARGUMENT, x -> x.rest(prime, 0));
        }
    }

    /** Promise 12: the exception named first, where there is neither such a prime nor a result. */
    private static void promise12FirstNamedException() {
        for (int prime : NEVER_PRIMES) {
            for (int i : new int[] {-1, 7, LEAST, MOST}) {
                Refusal.checkOnAll("12 rest(" + prime + ", " + i + ")", Check.ARGUMENT,
                        x -> x.rest(prime, i));
            }
        }
    }

    /** Promise 10: "The lowest 64 bits": next to 2^63, 2^64 and their like, above and below 0. */
    private static void promise10LowestBits() {
        for (BigInteger sum : sums()) {
            for (int kind = 0; kind <= 2; kind++) {
                Subject x = ExactSum.made(sum);
                x.fold(kind);
                Check.equal("10 low of " + sum, sum.longValue(), x.low(ExactSum.place(sum)));
            }
        }
    }

    /** Promise 11: "by 2 to the 64, rounded down": next to multiples of 2^64, above and below 0. */
    private static void promise11RoundedDown() {
        for (BigInteger sum : sums()) {
            for (int kind = 0; kind <= 2; kind++) {
                Subject x = ExactSum.made(sum);
                x.fold(kind);
                Check.equal("11 high of " + sum,
                        sum.shiftRight(64).intValueExact(), x.high(ExactSum.place(sum)));
            }
        }
    }

    /** Promise 11: the same by plain numbers. */
    private static void promise11RoundedDownByNumbers() {
        BigInteger unit = BigInteger.ONE.shiftLeft(64);
        checkHigh(BigInteger.ZERO, 0);
        checkHigh(BigInteger.ONE.negate(), -1);
        checkHigh(unit.subtract(BigInteger.ONE), 0);
        checkHigh(unit, 1);
        checkHigh(unit.negate(), -1);
        checkHigh(unit.negate().add(BigInteger.ONE), -1);
        checkHigh(unit.negate().subtract(BigInteger.ONE), -2);
        checkHigh(unit.shiftLeft(1).negate(), -2);
    }

    private static void checkHigh(BigInteger sum, int due) {
        Subject x = ExactSum.made(sum);
        x.fold(2);
        Check.equal("11 high of " + sum, due, x.high(ExactSum.place(sum)));
    }

    /** Promise 12: "The remainder": 0 to p - 1 next to multiples of the primes and of 2^62. */
    private static void promise12Remainders() {
        for (BigInteger sum : sums()) {
            for (int kind = 0; kind <= 2; kind++) {
                Subject x = ExactSum.made(sum);
                x.fold(kind);
                for (int prime = 0; prime < 3; prime++) {
                    BigInteger p = BigInteger.valueOf(Subject.PRIMES[prime]);
                    Check.equal("12 rest(" + prime + ") of " + sum,
                            sum.mod(p).intValueExact(), x.rest(prime, ExactSum.place(sum)));
                }
            }
        }
    }

    /** Promise 12: the same by plain numbers: a multiple of p is 0, one below it is p - 1. */
    private static void promise12RemaindersByNumbers() {
        for (int prime = 0; prime < 3; prime++) {
            int p = Subject.PRIMES[prime];
            Subject x = Subject.sized(2).withA(p, 1, -1, -p).withB(1);
            x.fold(1);
            Check.equal("12 p", 0, x.rest(prime, 0));
            Check.equal("12 1", 1, x.rest(prime, 1));
            Check.equal("12 -1", p - 1, x.rest(prime, 2));
            Check.equal("12 -p", 0, x.rest(prime, 3));
            x.withA(p - 1, p + 1, 1 - p, -p - 1);
            x.fold(1);
            Check.equal("12 p - 1", p - 1, x.rest(prime, 0));
            Check.equal("12 p + 1", 1, x.rest(prime, 1));
            Check.equal("12 1 - p", 1, x.rest(prime, 2));
            Check.equal("12 -p - 1", p - 1, x.rest(prime, 3));
        }
    }

    /** Each bound itself, one more and one less, and the same below 0. */
    private static List<BigInteger> sums() {
        List<BigInteger> sums = new ArrayList<>();
        for (BigInteger bound : bounds()) {
            for (int more = -1; more <= 1; more++) {
                BigInteger sum = bound.add(BigInteger.valueOf(more));
                sums.add(sum);
                sums.add(sum.negate());
            }
        }
        return sums;
    }

    private static List<BigInteger> bounds() {
        List<BigInteger> bounds = new ArrayList<>();
        bounds.add(BigInteger.ZERO);
        for (int bits = 31; bits <= 67; bits++) {
            bounds.add(BigInteger.ONE.shiftLeft(bits));
        }
        bounds.add(BigInteger.valueOf(3).shiftLeft(63));
        bounds.add(BigInteger.valueOf(3).shiftLeft(64));
        bounds.add(BigInteger.valueOf(7).shiftLeft(64));
        for (int one : Subject.PRIMES) {
            bounds.add(BigInteger.valueOf(one));
            for (int other : Subject.PRIMES) {
                BigInteger product = BigInteger.valueOf(one).multiply(BigInteger.valueOf(other));
                bounds.add(product);
                bounds.add(product.multiply(BigInteger.valueOf(256)));
            }
        }
        return bounds;
    }

    /** Promises 10 to 12: the largest sum there is, 2^70, by full rows of the lowest int. */
    private static void promise10To12LargestSum() {
        Subject x = Subject.filled(8, LEAST);
        checkFullRows(x, BigInteger.ONE.shiftLeft(62));
        x.fold(0);
        Check.equal("10 low of 2^70", 0, x.low(255));
        Check.equal("11 high of 2^70", 64, x.high(255));
        Check.equal("12 rest(0) of 2^70", 754905413, x.rest(0, 255));
        Check.equal("12 rest(1) of 2^70", 60439921, x.rest(1, 255));
        Check.equal("12 rest(2) of 2^70", 325962690, x.rest(2, 255));
    }

    /** Promises 10 to 12: the lowest sum there is, 2^39 - 2^70, by full rows of both extremes. */
    private static void promise10To12LowestSum() {
        Subject x = Subject.filled(8, LEAST, MOST);
        Check.equal("row A is of the lowest int", LEAST, x.a(77));
        Check.equal("row B is of the highest int", MOST, x.b(77));
        checkFullRows(x, BigInteger.valueOf((long) LEAST * MOST));
        x.fold(0);
        Check.equal("10 low of 2^39 - 2^70", 1L << 39, x.low(255));
        Check.equal("11 high of 2^39 - 2^70", -64, x.high(255));
        Check.equal("12 rest(0) of 2^39 - 2^70", 964758678, x.rest(0, 255));
        Check.equal("12 rest(1) of 2^39 - 2^70", 73774531, x.rest(1, 255));
        Check.equal("12 rest(2) of 2^39 - 2^70", 278015917, x.rest(2, 255));
    }

    private static void checkFullRows(Subject x, BigInteger term) {
        x.fold(0);
        for (int i = 0; i < 256; i += 17) {
            checkTimes("10 to 12 fold(0)", x, i, term, 256);
        }
        x.fold(1);
        for (int i = 255; i >= 0; i -= 17) {
            checkTimes("10 to 12 fold(1)", x, i, term, 2 * (i + 1) - 256);
        }
        x.fold(2);
        for (int i : new int[] {0, 254, 255, 256, 510}) {
            checkTimes("10 to 12 fold(2)", x, i, term, i < 256 ? i + 1 : 511 - i);
        }
    }

    private static void checkTimes(String what, Subject x, int i, BigInteger term, int times) {
        BigInteger due = term.multiply(BigInteger.valueOf(times));
        Check.equal(what + ": low(" + i + ")", due.longValue(), x.low(i));
        Check.equal(what + ": high(" + i + ")", due.shiftRight(64).intValueExact(), x.high(i));
        for (int prime = 0; prime < 3; prime++) {
            BigInteger p = BigInteger.valueOf(Subject.PRIMES[prime]);
            Check.equal(what + ": rest(" + prime + ", " + i + ")",
                    due.mod(p).intValueExact(), x.rest(prime, i));
        }
    }

    /** Promises 10 to 12: "the last folding": nothing but fold and size changes what they tell. */
    private static void promise10To12OfTheLastFolding() {
        Subject x = Subject.sized(1).withA(3, -4).withB(5, 6);
        x.fold(2);
        x.setA(0, 100);
        Check.results("10 to 12 after setA", x, 15, -2, -24);
        x.setB(1, 100);
        Check.results("10 to 12 after setB", x, 15, -2, -24);
        x.swap();
        Check.results("10 to 12 after swap", x, 15, -2, -24);
        x.power(5);
        Check.results("10 to 12 after power", x, 15, -2, -24);
        x.keep();
        Check.results("10 to 12 after keep", x, 15, -2, -24);
        x.value(0, 1);
        x.back(1, 1);
        x.product(2, 3, 4);
        x.root(0, 5);
        Check.results("10 to 12 after value, back, product, root", x, 15, -2, -24);
        x.fold(0);
        Check.results("10 to 12 after fold", x, 15 * 100 - 2 * -4, 15 * -4 - 2 * 100);
    }
}
