import java.math.BigInteger;
import java.util.Arrays;

/** The document once more, term by term with BigInteger, for RunsTest to compare with. */
final class Model {
    private static final BigInteger[] PRIMES = {
        BigInteger.valueOf(998244353), BigInteger.valueOf(167772161), BigInteger.valueOf(469762049)
    };

    private int[] rowA = new int[2];
    private int[] rowB = new int[2];
    private BigInteger[] results = new BigInteger[0];

    void size(int k) {
        argument(k >= 1 && k <= 8);
        rowA = new int[1 << k];
        rowB = new int[1 << k];
        results = new BigInteger[0];
    }

    int setA(int i, int v) {
        return set(rowA, i, v);
    }

    int setB(int i, int v) {
        return set(rowB, i, v);
    }

    int a(int i) {
        index(i, rowA.length);
        return rowA[i];
    }

    int b(int i) {
        index(i, rowB.length);
        return rowB[i];
    }

    void swap() {
        int[] before = rowA;
        rowA = rowB;
        rowB = before;
    }

    int fold(int kind) {
        argument(kind >= 0 && kind <= 2);
        results = folded(rowA, rowB, kind);
        return results.length;
    }

    int power(int e) {
        argument(e >= 1 && e <= 1000);
        int[] base = rowA.clone();
        for (int i = 1; i < e; i++) {
            rowA = roundCutToInts(rowA, base);
        }
        return rowA[0];
    }

    long low(int i) {
        index(i, results.length);
        return results[i].longValue();
    }

    int high(int i) {
        index(i, results.length);
        return results[i].shiftRight(64).intValueExact();
    }

    int rest(int prime, int i) {
        argument(prime >= 0 && prime <= 2);
        index(i, results.length);
        return results[i].mod(PRIMES[prime]).intValueExact();
    }

    int value(int prime, int i) {
        argument(prime >= 0 && prime <= 2);
        index(i, rowA.length);
        return rowAAt(w(prime), prime, i).intValueExact();
    }

    int back(int prime, int i) {
        argument(prime >= 0 && prime <= 2);
        index(i, rowA.length);
        BigInteger p = PRIMES[prime];
        BigInteger n = BigInteger.valueOf(rowA.length);
        return rowAAt(w(prime).modInverse(p), prime, i)
                .multiply(n.modInverse(p))
                .mod(p)
                .intValueExact();
    }

    void keep() {
        if (results.length == 0) {
            throw new IllegalStateException();
        }
        for (int i = 0; i < rowA.length; i++) {
            rowA[i] = results[i].intValue();
        }
    }

    int product(int prime, int x, int y) {
        argument(prime >= 0 && prime <= 2);
        return BigInteger.valueOf(x)
                .multiply(BigInteger.valueOf(y))
                .mod(PRIMES[prime])
                .intValueExact();
    }

    int root(int prime, int e) {
        argument(prime >= 0 && prime <= 2);
        return w(prime).modPow(BigInteger.valueOf(e), PRIMES[prime]).intValueExact();
    }

    private static BigInteger[] folded(int[] one, int[] other, int kind) {
        int n = one.length;
        BigInteger[] sums = new BigInteger[kind == 2 ? 2 * n - 1 : n];
        Arrays.fill(sums, BigInteger.ZERO);
        for (int j = 0; j < n; j++) {
            for (int m = 0; m < n; m++) {
                BigInteger term = BigInteger.valueOf((long) one[j] * other[m]);
                if (j + m < sums.length) {
                    sums[j + m] = sums[j + m].add(term);
                } else if (kind == 0) {
                    sums[j + m - n] = sums[j + m - n].add(term);
                } else {
                    sums[j + m - n] = sums[j + m - n].subtract(term);
                }
            }
        }
        return sums;
    }

    /** An int's own wrap-around is the cut to its lowest 32 bits. */
    private static int[] roundCutToInts(int[] one, int[] other) {
        int n = one.length;
        int[] sums = new int[n];
        for (int j = 0; j < n; j++) {
            for (int m = 0; m < n; m++) {
                sums[(j + m) % n] += one[j] * other[m];
            }
        }
        return sums;
    }

    private BigInteger w(int prime) {
        BigInteger p = PRIMES[prime];
        BigInteger n = BigInteger.valueOf(rowA.length);
        return BigInteger.valueOf(3).modPow(p.subtract(BigInteger.ONE).divide(n), p);
    }

    private BigInteger rowAAt(BigInteger root, int prime, int i) {
        BigInteger p = PRIMES[prime];
        BigInteger sum = BigInteger.ZERO;
        for (int j = 0; j < rowA.length; j++) {
            BigInteger turn = root.modPow(BigInteger.valueOf((long) i * j), p);
            sum = sum.add(BigInteger.valueOf(rowA[j]).multiply(turn));
        }
        return sum.mod(p);
    }

    private static int set(int[] row, int i, int v) {
        index(i, row.length);
        int before = row[i];
        row[i] = v;
        return before;
    }

    private static void argument(boolean good) {
        if (!good) {
            throw new IllegalArgumentException();
        }
    }

    private static void index(int i, int count) {
        if (i < 0 || i >= count) {
            throw new IndexOutOfBoundsException();
        }
    }
}
