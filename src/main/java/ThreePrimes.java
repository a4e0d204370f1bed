/**
 * Folds rows of whole numbers into one another by way of three primes: round, round with a turned
 * sign, or straight, as exact numbers of more than 64 bits; rows are turned into their values at
 * roots of one modulo each prime, and back.
 */
public final class ThreePrimes {
    private static final int FIRST = 998244353;
    private static final int SECOND = 167772161;
    private static final int THIRD = 469762049;
    private static final int[] PRIMES = {FIRST, SECOND, THIRD};

    private static final int ROUND = 0;
    private static final int TURNED = 1;
    private static final int STRAIGHT = 2;

    private static final int FEWEST_LEVELS = 1;
    private static final int MOST_LEVELS = 8;
    private static final int MOST_PLACES = 1 << MOST_LEVELS;
    private static final int MOST_EXPONENT = 1000;
    private static final int HIGHEST_BIT_OF_MOST_EXPONENT = 512;

    /** The document's k: a row has 2 to the levels places. */
    private int levels;
    private int[] rowA;
    private int[] rowB;

    /** How many results the last folding has; 0: nothing was folded. */
    private int results;
    private final Sums sums;
    private final Folder folder;

    // power() folds into sums of its own, because the last result told has to stay.
    private final Sums powerSums;
    private final int[] powerBase;

    public ThreePrimes() {
        levels = FEWEST_LEVELS;
        rowA = new int[MOST_PLACES];
        rowB = new int[MOST_PLACES];
        results = 0;
        sums = new Sums(2 * MOST_PLACES - 1);
        folder = new Folder(2 * MOST_PLACES);
        powerSums = new Sums(MOST_PLACES);
        powerBase = new int[MOST_PLACES];
    }

    public void size(int k) throws IllegalArgumentException {
        if (k < FEWEST_LEVELS || k > MOST_LEVELS) {
            throw new IllegalArgumentException("k is not 1 to 8");
        }
        levels = k;
        results = 0;
        for (int i = 0; i < places(); i++) {
            rowA[i] = 0;
            rowB[i] = 0;
        }
    }

    public int setA(int i, int v) throws IndexOutOfBoundsException {
        requirePlace(i);
        int before = rowA[i];
        rowA[i] = v;
        return before;
    }

    public int setB(int i, int v) throws IndexOutOfBoundsException {
        requirePlace(i);
        int before = rowB[i];
        rowB[i] = v;
        return before;
    }

    public int a(int i) throws IndexOutOfBoundsException {
        requirePlace(i);
        return rowA[i];
    }

    public int b(int i) throws IndexOutOfBoundsException {
        requirePlace(i);
        return rowB[i];
    }

    public void swap() {
        int[] before = rowA;
        rowA = rowB;
        rowB = before;
    }

    public int fold(int kind) throws IllegalArgumentException {
        if (kind < ROUND || kind > STRAIGHT) {
            throw new IllegalArgumentException("kind is not 0 to 2");
        }
        folder.foldRows(rowA, rowB, levels, kind, sums);
        results = kind == STRAIGHT ? 2 * places() - 1 : places();
        return results;
    }

    public int power(int e) throws IllegalArgumentException {
        if (e < 1 || e > MOST_EXPONENT) {
            throw new IllegalArgumentException("e is not 1 to 1000");
        }
        System.arraycopy(rowA, 0, powerBase, 0, places());
        // Row A itself stands for the highest bit of e; each bit below it squares what there is.
        for (int bit = HIGHEST_BIT_OF_MOST_EXPONENT / 2; bit > 0; bit /= 2) {
            boolean isBelowHighestBit = 2 * bit <= e;
            if (isBelowHighestBit) {
                foldRowAWith(rowA);
            }
            if (isBelowHighestBit && (e & bit) != 0) {
                foldRowAWith(powerBase);
            }
        }
        return rowA[0];
    }

    public long low(int i) throws IndexOutOfBoundsException {
        requireResult(i);
        return sums.lowest64Bits(i);
    }

    public int high(int i) throws IndexOutOfBoundsException {
        requireResult(i);
        return sums.bitsAbove64(i);
    }

    public int rest(int prime, int i) throws IllegalArgumentException, IndexOutOfBoundsException {
        requirePrime(prime);
        requireResult(i);
        return sums.remainder(prime, i);
    }

    public int value(int prime, int i) throws IllegalArgumentException, IndexOutOfBoundsException {
        requirePrime(prime);
        requirePlace(i);
        return (int) rowAAt(rootToThe(prime, i), PRIMES[prime]);
    }

    public int back(int prime, int i) throws IllegalArgumentException, IndexOutOfBoundsException {
        requirePrime(prime);
        requirePlace(i);
        int p = PRIMES[prime];
        return (int) (rowAAt(rootToThe(prime, -i), p) * Modulo.inverse(places(), p) % p);
    }

    public void keep() throws IllegalStateException {
        if (results == 0) {
            throw new IllegalStateException("nothing was folded");
        }
        sums.cutInto(rowA, places());
    }

    public int product(int prime, int x, int y) throws IllegalArgumentException {
        requirePrime(prime);
        return (int) Modulo.remainder((long) x * y, PRIMES[prime]);
    }

    public int root(int prime, int e) throws IllegalArgumentException {
        requirePrime(prime);
        return (int) rootToThe(prime, e);
    }

    private int places() {
        return 1 << levels;
    }

    private void requirePlace(int i) {
        if (i < 0 || i >= places()) {
            throw new IndexOutOfBoundsException("there is no such place");
        }
    }

    private void requireResult(int i) {
        if (i < 0 || i >= results) {
            throw new IndexOutOfBoundsException("there is no such result");
        }
    }

    private void requirePrime(int prime) {
        if (prime < 0 || prime >= PRIMES.length) {
            throw new IllegalArgumentException("prime is not 0 to 2");
        }
    }

    private void foldRowAWith(int[] other) {
        folder.foldRows(rowA, other, levels, ROUND, powerSums);
        powerSums.cutInto(rowA, places());
    }

    private long rootToThe(int prime, int e) {
        int p = PRIMES[prime];
        // The root to the n is 1, so the lowest bits of e are all that counts, below 0 too.
        return Modulo.raise(Modulo.rootOfOne(levels, p), e & (places() - 1), p);
    }

    /** The sum of A(j) x^j modulo p. */
    private long rowAAt(long x, int p) {
        long sum = 0;
        for (int j = places() - 1; j >= 0; j--) {
            sum = (sum * x + rowA[j]) % p;
        }
        return Modulo.remainder(sum, p);
    }

    /** Reckons with remainders modulo a prime p below 2 to the 30. */
    private static final class Modulo {
        /** Its powers are all of 1 to p - 1, for each of the three primes. */
        private static final int GENERATOR = 3;

        static long remainder(long x, int p) {
            long signed = x % p;
            return signed < 0 ? signed + p : signed;
        }

        static long raise(long base, int exponent, int p) {
            long result = 1;
            long square = base;
            for (int bits = exponent; bits > 0; bits /= 2) {
                if (bits % 2 == 1) {
                    result = result * square % p;
                }
                square = square * square % p;
            }
            return result;
        }

        static long inverse(long x, int p) {
            return raise(x, p - 2, p);
        }

        /** The root w of p for rows of 2 to the levels. */
        static long rootOfOne(int levels, int p) {
            return raise(GENERATOR, (p - 1) >> levels, p);
        }
    }

    /** A row of exact numbers, each held as its remainders modulo the three primes. */
    private static final class Sums {
        private static final long FIRST_TWO = (long) FIRST * SECOND;
        private static final long INVERSE_OF_FIRST_MODULO_SECOND = 47450712;
        private static final long INVERSE_OF_FIRST_TWO_MODULO_THIRD = 115990628;

        private final int[][] remainders;

        Sums(int most) {
            remainders = new int[PRIMES.length][most];
        }

        int remainder(int prime, int i) {
            return remainders[prime][i];
        }

        void setRemainder(int prime, int i, long remainder) {
            remainders[prime][i] = (int) remainder;
        }

        void cutInto(int[] row, int count) {
            for (int i = 0; i < count; i++) {
                row[i] = (int) lowest64Bits(i);
            }
        }

        long lowest64Bits(int i) {
            long part = moduloFirstTwo(i);
            return part + FIRST_TWO * timesOfFirstTwo(i, part);
        }

        int bitsAbove64(int i) {
            long part = moduloFirstTwo(i);
            long times = timesOfFirstTwo(i, part);
            // FIRST_TWO times times needs more than 64 bits, so it is made from 32 bits at a time.
            long fromLowerHalf = part + (FIRST_TWO & 0xFFFFFFFFL) * times;
            long fromUpperHalf = (FIRST_TWO >> 32) * times;
            return (int) ((fromUpperHalf + (fromLowerHalf >> 32)) >> 32);
        }

        /** The number's remainder modulo the product of the first two primes. */
        private long moduloFirstTwo(int i) {
            long first = remainders[0][i];
            long missing = remainders[1][i] - first;
            return first
                    + FIRST * Modulo.remainder(missing * INVERSE_OF_FIRST_MODULO_SECOND, SECOND);
        }

        /** How many times the product of the first two primes goes into it, rounded down. */
        private long timesOfFirstTwo(int i, long moduloFirstTwo) {
            long missing = (remainders[2][i] - moduloFirstTwo) % THIRD;
            long times = Modulo.remainder(missing * INVERSE_OF_FIRST_TWO_MODULO_THIRD, THIRD);
            // A number is between -2^70 and 2^70, far from half of what the three primes can
            // tell apart: so the upper half of the remainders stands for numbers below 0.
            return times > THIRD / 2 ? times - THIRD : times;
        }
    }

    /** Folds two rows modulo each prime, by their values at roots of one. */
    private static final class Folder {
        private final long[] left;
        private final long[] right;
        private final long[] rootPowers;

        Folder(int mostLength) {
            left = new long[mostLength];
            right = new long[mostLength];
            rootPowers = new long[mostLength / 2];
        }

        void foldRows(int[] one, int[] other, int levels, int kind, Sums sums) {
            // n values tell the round folding alone; the others need room for all straight sums.
            int foldLevels = kind == ROUND ? levels : levels + 1;
            int places = 1 << levels;
            for (int prime = 0; prime < PRIMES.length; prime++) {
                int p = PRIMES[prime];
                loadRemainders(one, places, left, p);
                loadRemainders(other, places, right, p);
                foldRoundModulo(foldLevels, p);
                if (kind == TURNED) {
                    takeAwayUpperHalf(places, p);
                }
                storeRemainders(kind == STRAIGHT ? 2 * places - 1 : places, prime, sums);
            }
        }

        private void loadRemainders(int[] row, int places, long[] into, int p) {
            for (int i = 0; i < places; i++) {
                into[i] = Modulo.remainder(row[i], p);
                into[i + places] = 0;
            }
        }

        private void takeAwayUpperHalf(int places, int p) {
            for (int i = 0; i < places; i++) {
                left[i] = Modulo.remainder(left[i] - left[i + places], p);
            }
        }

        private void storeRemainders(int count, int prime, Sums sums) {
            for (int i = 0; i < count; i++) {
                sums.setRemainder(prime, i, left[i]);
            }
        }

        /** Folds left with right, round, into left. */
        private void foldRoundModulo(int levels, int p) {
            int length = 1 << levels;
            long root = Modulo.rootOfOne(levels, p);
            listRootPowers(root, length / 2, p);
            turnIntoValues(left, levels, p);
            turnIntoValues(right, levels, p);
            for (int i = 0; i < length; i++) {
                left[i] = left[i] * right[i] % p;
            }
            listRootPowers(Modulo.inverse(root, p), length / 2, p);
            turnBack(left, levels, p);
        }

        private void listRootPowers(long root, int count, int p) {
            rootPowers[0] = 1;
            for (int i = 1; i < count; i++) {
                rootPowers[i] = rootPowers[i - 1] * root % p;
            }
        }

        /**
         * Leaves the values in the order of their places' bits read backwards: products of values
         * don't mind the order, and turnBack() takes them in that one.
         */
        private void turnIntoValues(long[] row, int levels, int p) {
            int length = 1 << levels;
            for (int level = levels - 1; level >= 0; level--) {
                int half = 1 << level;
                for (int start = 0; start < length; start += 2 * half) {
                    splitBlock(row, start, half, length / (2 * half), p);
                }
            }
        }

        private void turnBack(long[] row, int levels, int p) {
            int length = 1 << levels;
            for (int level = 0; level < levels; level++) {
                int half = 1 << level;
                for (int start = 0; start < length; start += 2 * half) {
                    joinBlock(row, start, half, length / (2 * half), p);
                }
            }
            long inverseOfLength = Modulo.inverse(length, p);
            for (int i = 0; i < length; i++) {
                row[i] = row[i] * inverseOfLength % p;
            }
        }

        private void splitBlock(long[] row, int start, int half, int stride, int p) {
            for (int t = 0; t < half; t++) {
                long lower = row[start + t];
                long upper = row[start + half + t];
                long sum = lower + upper;
                row[start + t] = sum >= p ? sum - p : sum;
                row[start + half + t] = (lower - upper + p) * rootPowers[t * stride] % p;
            }
        }

        private void joinBlock(long[] row, int start, int half, int stride, int p) {
            for (int t = 0; t < half; t++) {
                long lower = row[start + t];
                long upper = row[start + half + t] * rootPowers[t * stride] % p;
                long sum = lower + upper;
                long difference = lower - upper;
                row[start + t] = sum >= p ? sum - p : sum;
                row[start + half + t] = difference < 0 ? difference + p : difference;
            }
        }
    }
}
