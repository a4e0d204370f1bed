import java.math.BigInteger;

/** The boundary cases of promises 8, 9 and 15, and of the document's term FOLDING. */
public final class FoldingBoundaryTest {
    private static final int LEAST = Check.LEAST;
    private static final int MOST = Check.MOST;

    public static void main(String[] args) {
        Check.runTestsOf(FoldingBoundaryTest.class);
    }

    /** Promise 8: "kind is not 0 to 2", too small. */
    private static void promise8KindTooSmall() {
        for (int kind : new int[] {-1, -2, -3, LEAST, LEAST + 1, LEAST + 2}) {
            Refusal.checkOnAll("8 fold(" + kind + ")", Check.ARGUMENT, x -> x.fold(kind));
        }
    }

    /** Promise 8: "kind is not 0 to 2", too large; 256 and 65536 would be good ones if cut. */
    private static void promise8KindTooLarge() {
        for (int kind : new int[] {3, 4, 256, 257, 258, 65536, MOST}) {
            Refusal.checkOnAll("8 fold(" + kind + ")", Check.ARGUMENT, x -> x.fold(kind));
        }
    }

    /** Promise 8: "Answers how many results there are", and there are no more, for every n. */
    private static void promise8HowManyResults() {
        for (int k = 1; k <= 8; k++) {
            Subject x = Subject.sized(k);
            int n = 1 << k;
            for (int kind : new int[] {0, 1, 2, 1, 0, 2}) {
                int due = kind == 2 ? 2 * n - 1 : n;
                String what = "8 n " + n + " fold(" + kind + ")";
                Check.equal(what, due, x.fold(kind));
                Check.result(what, x, 0, 0);
                Check.result(what, x, due - 1, 0);
                Check.noResult(what, x, due);
                Check.noResult(what, x, -1);
            }
        }
    }

    /** Promise 8: rows of 0 are folded too: their results are 0 and can be kept. */
    private static void promise8RowsOfZeros() {
        for (int kind = 0; kind <= 2; kind++) {
            Subject x = new Subject();
            x.fold(kind);
            x.withA(5, 6);
            x.keep();
            Check.rowA("8 fold(" + kind + ") of rows of 0", x, 0, 0);
        }
    }

    /** Promise 8: one row of 0 is enough to make all results 0. */
    private static void promise8OneRowOfZeros() {
        Subject x = Subject.sized(1).withA(LEAST, MOST);
        x.fold(2);
        Check.results("8 B is 0", x, 0, 0, 0);
        x.swap();
        x.fold(2);
        Check.results("8 A is 0", x, 0, 0, 0);
    }

    /** Promise 8: a folding with fewer results leaves none of the longer one before it. */
    private static void promise8ShorterAfterLonger() {
        for (int kind = 0; kind <= 1; kind++) {
            Subject x = Subject.sized(1).withA(1, 2).withB(3, 4);
            x.fold(2);
            x.fold(kind);
            long first = kind == 0 ? 11 : -5;
            Check.results("8 fold(2), then fold(" + kind + ")", x, first, 10);
            Check.noResult("8 fold(2), then fold(" + kind + ")", x, 2);
        }
    }

    /** Promise 8: the rows stay, and the results are those of the rows at the time of the call. */
    private static void promise8RowsStayAndResultsToo() {
        for (int kind = 0; kind <= 2; kind++) {
            Subject x = Subject.sized(1).withA(1, 2).withB(3, 4);
            x.fold(kind);
            Check.rowA("8 fold(" + kind + ")", x, 1, 2);
            Check.rowB("8 fold(" + kind + ")", x, 3, 4);
            x.withA(9, 9).withB(9, 9);
            Check.result("8 fold(" + kind + "), then other rows", x, 1, 10);
        }
    }

    /** Promise 8, FOLDING: j + m = n - 1 is the last that does not wrap around, for any kind. */
    private static void promise8LastBeforeTheWrap() {
        for (int k = 1; k <= 8; k++) {
            int n = 1 << k;
            checkPair(k, 0, n - 1, 0, n - 1, 1);
            checkPair(k, n / 2, n / 2 - 1, 1, n - 1, 1);
            checkPair(k, n - 1, 0, 2, n - 1, 1);
        }
    }

    /** Promise 8, FOLDING kind 0: "j + m = i or i + n": the first and the last that wrap around. */
    private static void promise8Kind0Wraps() {
        for (int k = 1; k <= 8; k++) {
            int n = 1 << k;
            checkPair(k, 1, n - 1, 0, 0, 1);
            checkPair(k, n / 2, n / 2, 0, 0, 1);
            checkPair(k, n - 1, n - 1, 0, n - 2, 1);
        }
    }

    /** Promise 8, FOLDING kind 1: "those with i + n taken away": the first and the last of them. */
    private static void promise8Kind1TurnsTheSign() {
        for (int k = 1; k <= 8; k++) {
            int n = 1 << k;
            checkPair(k, 1, n - 1, 1, 0, -1);
            checkPair(k, n / 2, n / 2, 1, 0, -1);
            checkPair(k, n - 1, n - 1, 1, n - 2, -1);
        }
    }

    /** Promise 8, FOLDING kind 2: "i 0 .. 2 n - 2": nothing wraps around. */
    private static void promise8Kind2IsStraight() {
        for (int k = 1; k <= 8; k++) {
            int n = 1 << k;
            checkPair(k, 0, 0, 2, 0, 1);
            checkPair(k, 1, n - 1, 2, n, 1);
            checkPair(k, n - 1, n - 1, 2, 2 * n - 2, 1);
        }
    }

    /** A(j) and B(m) alone are not 0: one result is their product, or that taken away, all others 0. */
    private static void checkPair(int k, int j, int m, int kind, int place, int sign) {
        Subject x = Subject.sized(k);
        x.setA(j, LEAST);
        x.setB(m, 3);
        int count = x.fold(kind);
        String what = "8 n " + (1 << k) + " fold(" + kind + ") of places " + j + " and " + m;
        Check.result(what, x, place, sign * 3L * LEAST);
        int step = count / x.callsLeft() + 1;
        for (int i = 0; i < count; i += step) {
            Check.equal(what + ": low(" + i + ")", i == place ? sign * 3L * LEAST : 0, x.low(i));
        }
    }

    /** Promise 8, FOLDING: full rows of 1 tell how many pairs each result has. */
    private static void promise8FullRows() {
        for (int k = 1; k <= 8; k++) {
            int n = 1 << k;
            for (int kind = 0; kind <= 2; kind++) {
                Subject x = Subject.filled(k, 1);
                int count = x.fold(kind);
                int step = count / x.callsLeft() + 1;
                for (int i = count - 1; i >= 0; i -= step) {
                    Check.equal("8 n " + n + " fold(" + kind + "): low(" + i + ")",
                            pairs(kind, n, i), x.low(i));
                }
            }
        }
    }

    private static int pairs(int kind, int n, int i) {
        int straight = i < n ? i + 1 : 2 * n - 1 - i;
        return kind == 0 ? n : kind == 1 ? 2 * (i + 1) - n : straight;
    }

    /** Promise 9: "e is not 1 to 1000", too small. */
    private static void promise9ETooSmall() {
        for (int e : new int[] {0, -1, -2, -1000, LEAST, LEAST + 1}) {
            Refusal.checkOnAll("9 power(" + e + ")", Check.ARGUMENT, x -> x.power(e));
        }
    }

    /** Promise 9: "e is not 1 to 1000", too large; 65537 would be 1 if cut. */
    private static void promise9ETooLarge() {
        for (int e : new int[] {1001, 1002, 1023, 1024, 1025, 2000, 65537, MOST}) {
            Refusal.checkOnAll("9 power(" + e + ")", Check.ARGUMENT, x -> x.power(e));
        }
    }

    /** Promise 9: "e 1: A". */
    private static void promise9EIsOne() {
        for (int k = 1; k <= 8; k++) {
            Subject x = Subject.sized(k);
            int n = 1 << k;
            x.setA(0, LEAST);
            x.setA(n - 1, MOST);
            Check.equal("9 n " + n + ": power(1)", LEAST, x.power(1));
            Check.equal("9 n " + n + ": a(0)", LEAST, x.a(0));
            Check.equal("9 n " + n + ": a(n - 1)", MOST, x.a(n - 1));
        }
    }

    /** Promise 9: e 2 is one folding of A with itself. */
    private static void promise9EIsTwo() {
        Subject x = Subject.sized(1).withA(3, 5).withB(7, 11);
        Check.equal("9 power(2)", 34, x.power(2));
        Check.rowA("9 power(2)", x, 34, 30);
        Check.rowB("9 power(2)", x, 7, 11);
    }

    /** Promise 9: the largest e, 1000, for every n. */
    private static void promise9LargestE() {
        for (int k = 1; k <= 8; k++) {
            checkPower(k, 1000, 3, -5, LEAST);
            checkPower(k, 999, 1, MOST, 0);
        }
    }

    /** Promise 9: e next to each power of 2, where squaring and multiplying change over. */
    private static void promise9ENextToPowersOfTwo() {
        for (int e = 2; e <= 512; e *= 2) {
            checkPower(2, e - 1, 3, 5, 7);
            checkPower(2, e, 3, 5, 7);
            checkPower(2, e + 1, 3, 5, 7);
        }
    }

    /** Numbers at places 0, 1 and n - 1; where these are one, the last one counts. */
    private static void checkPower(int k, int e, int first, int second, int last) {
        Subject x = Subject.sized(k);
        int n = 1 << k;
        int[] base = new int[n];
        base[0] = first;
        base[1] = second;
        base[n - 1] = last;
        x.withA(first, second);
        x.setA(n - 1, last);
        int[] due = base;
        for (int i = 1; i < e; i++) {
            due = foldedWithThree(due, base);
        }
        String what = "9 n " + n + ": power(" + e + ")";
        Check.equal(what, due[0], x.power(e));
        Check.rowA(what, x, due);
    }

    /** Round, with Java's own wrap-around as the cut; only places 0, 1 and n - 1 of base count. */
    private static int[] foldedWithThree(int[] row, int[] base) {
        int n = row.length;
        int[] sums = new int[n];
        for (int j = 0; j < n; j++) {
            sums[j] += row[j] * base[0];
            sums[(j + 1) % n] += row[j] * base[1];
            if (n > 2) {
                sums[(j + n - 1) % n] += row[j] * base[n - 1];
            }
        }
        return sums;
    }

    /** Promise 9: "cut to ints with each folding, as low() cut to an int". */
    private static void promise9CutToInts() {
        checkSquare(65536, 0);
        checkSquare(46340, 2147395600);
        checkSquare(46341, -2147479015);
        checkSquare(65535, -131071);
        checkSquare(MOST, 1);
        checkSquare(LEAST, 0);
        checkSquare(-1, 1);
        checkSquare(-46341, -2147479015);
        Subject x = Subject.sized(1).withA(2, 0);
        Check.equal("9 2 to the 31", LEAST, x.power(31));
        x.setA(0, 2);
        Check.equal("9 2 to the 32", 0, x.power(32));
        x.setA(0, -2);
        Check.equal("9 -2 to the 31", LEAST, x.power(31));
        x.setA(0, 3);
        Check.equal("9 3 to the 1000", -742892767, x.power(1000));
    }

    private static void checkSquare(int v, int due) {
        Subject x = Subject.sized(1).withA(0, v);
        Check.equal("9 power(2) of " + v, due, x.power(2));
        Check.rowA("9 power(2) of " + v, x, due, 0);
    }

    /** Promise 9: "cut to ints": full rows, where a sum needs more than 64 bits before the cut. */
    private static void promise9CutOfTheLargestSums() {
        for (int v : new int[] {LEAST, MOST, LEAST + 1, -1}) {
            Subject x = Subject.filled(8, v);
            int due = v * v * 256;
            Check.equal("9 power(2) of a full row of " + v, due, x.power(2));
            for (int i = 0; i < 200; i++) {
                Check.equal("9 power(2) of a full row of " + v, due, x.a(255 - i));
            }
        }
    }

    /** Promise 9: "round": a 1 at place n - 1 wraps around with each factor. */
    private static void promise9WrapsAround() {
        for (int k = 1; k <= 8; k++) {
            int n = 1 << k;
            for (int e : new int[] {1, 2, n - 1, n, n + 1, 1000}) {
                Subject x = Subject.sized(k);
                x.setA(n - 1, 1);
                int place = e * (n - 1) % n;
                String what = "9 n " + n + ": power(" + e + ") of a turn";
                Check.equal(what, place == 0 ? 1 : 0, x.power(e));
                for (int i = 0; i < n; i++) {
                    Check.equal(what + ": a(" + i + ")", i == place ? 1 : 0, x.a(i));
                }
            }
        }
    }

    /** Promise 9: rows of 0 and of a single 1 are their own powers. */
    private static void promise9ZeroAndOne() {
        for (int e : new int[] {1, 2, 1000}) {
            Subject x = new Subject();
            Check.equal("9 power(" + e + ") of 0", 0, x.power(e));
            Check.rowA("9 power(" + e + ") of 0", x, 0, 0);
            x.setA(0, 1);
            Check.equal("9 power(" + e + ") of 1", 1, x.power(e));
            Check.rowA("9 power(" + e + ") of 1", x, 1, 0);
        }
    }

    /** Promise 9: "The last result told stays": where nothing was folded, nothing is. */
    private static void promise9NothingFoldedStays() {
        for (int e : new int[] {1, 2, 1000}) {
            Subject x = Subject.sized(1).withA(1, 2).withB(3, 4);
            x.power(e);
            Check.nothingFolded("9 power(" + e + ")", x);
        }
    }

    /** Promise 9: "The last result told stays": all of it, and keep takes it. */
    private static void promise9LastResultStays() {
        for (int e : new int[] {1, 2, 3, 1000}) {
            Subject x = Subject.sized(1).withA(1, 2).withB(3, 4);
            x.fold(2);
            x.power(e);
            Check.results("9 power(" + e + ") after fold(2)", x, 3, 10, 8);
            x.keep();
            Check.rowA("9 keep() after power(" + e + ")", x, 3, 10);
        }
    }

    /** Promise 9: power works on A of the last keep, and power of power is as told. */
    private static void promise9PowerOfPower() {
        Subject once = Subject.sized(2).withA(1, -2, 3, 5);
        Subject twice = Subject.sized(2).withA(1, -2, 3, 5);
        once.power(1000);
        twice.power(10);
        twice.power(100);
        for (int i = 0; i < 4; i++) {
            Check.equal("9 power(10), power(100)", once.a(i), twice.a(i));
        }
    }

    /** Promise 15: "nothing was folded": a new object, a new size, a power, a refused fold. */
    private static void promise15NothingWasFolded() {
        Refusal.checkOnUnfolded("15 keep()", Check.STATE, Subject::keep);
        Subject x = Subject.sized(1).withA(1, 2).withB(3, 4);
        Check.throwing("15 fold(3)", Check.ARGUMENT, () -> x.fold(3));
        x.swap();
        Check.throwing("15 keep() after fold(3) and swap()", Check.STATE, x::keep);
        Check.rowA("15 keep() after fold(3) and swap()", x, 3, 4);
        Check.rowB("15 keep() after fold(3) and swap()", x, 1, 2);
    }

    /** Promise 15: one folding is enough, and it can be kept for good, a refused fold in between too. */
    private static void promise15KeepTwice() {
        Subject x = Subject.sized(1).withA(1, 2).withB(3, 4);
        x.fold(1);
        x.keep();
        Check.rowA("15 keep()", x, -5, 10);
        x.withA(7, 8);
        Check.throwing("15 fold(-1)", Check.ARGUMENT, () -> x.fold(-1));
        x.keep();
        Check.rowA("15 keep() twice", x, -5, 10);
        Check.rowB("15 keep() twice", x, 3, 4);
        Check.results("15 keep() twice", x, -5, 10);
    }

    /** Promise 15: "the results 0 to n - 1", the first and the last, where there are 2 n - 1. */
    private static void promise15OfMoreResults() {
        for (int k = 1; k <= 8; k++) {
            Subject x = Subject.sized(k);
            int n = 1 << k;
            x.withA(2, 3);
            x.setB(n - 1, 5);
            x.setB(0, 7);
            Check.equal("15 n " + n + ": fold(2)", 2 * n - 1, x.fold(2));
            x.keep();
            Check.equal("15 n " + n + ": a(0)", 14, x.a(0));
            int carried = n == 2 ? 21 : 0;
            Check.equal("15 n " + n + ": a(n - 1)", 10 + carried, x.a(n - 1));
            Check.equal("15 n " + n + ": low(n)", 15, x.low(n));
            Check.throwing("15 n " + n + ": a(n)", Check.INDEX, () -> x.a(n));
            Check.equal("15 n " + n + ": b(n - 1)", 5, x.b(n - 1));
        }
    }

    /** Promise 15: "their lowest 32 bits", next to the bounds of ints and of 32 bits. */
    private static void promise15LowestBits() {
        checkKept(2147483647L, MOST);
        checkKept(2147483648L, LEAST);
        checkKept(2147483649L, LEAST + 1);
        checkKept(4294967295L, -1);
        checkKept(4294967296L, 0);
        checkKept(4294967297L, 1);
        checkKept(-1L, -1);
        checkKept(-2147483648L, LEAST);
        checkKept(-2147483649L, MOST);
        checkKept(-4294967296L, 0);
        checkKept(-4294967297L, -1);
        checkKept(4611686014132420609L, 1);
        checkKept(-4611686016279904256L, LEAST);
    }

    private static void checkKept(long sum, int due) {
        for (int kind = 0; kind <= 2; kind++) {
            Subject x = ExactSum.made(BigInteger.valueOf(sum));
            int place = ExactSum.place(BigInteger.valueOf(sum));
            x.fold(kind);
            Check.equal("15 the sum by fold(" + kind + ")", sum, x.low(place));
            x.keep();
            Check.equal("15 " + sum + " kept after fold(" + kind + ")", due, x.a(place));
        }
    }

    /** Promise 15: "their lowest 32 bits", of the largest and the smallest sums there are. */
    private static void promise15LargestSums() {
        for (int v : new int[] {LEAST, MOST, -1, LEAST + 1}) {
            Subject x = Subject.filled(8, v);
            x.fold(0);
            x.keep();
            for (int i = 0; i < 256; i += 5) {
                Check.equal("15 full rows of " + v + ": a(" + i + ")", 256 * v * v, x.a(i));
            }
        }
    }
}
