import java.math.BigInteger;
import java.util.ArrayList;
import java.util.List;

/** Makes rows whose folding, by any kind, has a sum of up to 70 bits at place n - 1. */
final class ExactSum {
    private static final BigInteger GREATEST_TERM = BigInteger.ONE.shiftLeft(62);
    private static final BigInteger LEAST_TERM =
            BigInteger.valueOf((long) Check.LEAST * Check.MOST);

    private ExactSum() {}

    /** Places j and m with j + m = n - 1 have the terms: there no kind of folding wraps around. */
    static Subject made(BigInteger sum) {
        List<int[]> terms = terms(sum);
        Subject x = Subject.sized(levels(terms.size()));
        int last = place(sum);
        for (int j = 0; j < terms.size(); j++) {
            x.setA(j, terms.get(j)[0]);
            x.setB(last - j, terms.get(j)[1]);
        }
        return x;
    }

    static int place(BigInteger sum) {
        return (1 << levels(terms(sum).size())) - 1;
    }

    private static int levels(int count) {
        int levels = 1;
        while (1 << levels < count) {
            levels++;
        }
        return levels;
    }

    private static List<int[]> terms(BigInteger sum) {
        List<int[]> terms = new ArrayList<>();
        BigInteger left = sum;
        while (left.compareTo(GREATEST_TERM) >= 0) {
            terms.add(new int[] {Check.LEAST, Check.LEAST});
            left = left.subtract(GREATEST_TERM);
        }
        while (left.compareTo(LEAST_TERM) <= 0) {
            terms.add(new int[] {Check.LEAST, Check.MOST});
            left = left.subtract(LEAST_TERM);
        }
        long rest = left.longValueExact();
        terms.add(new int[] {Check.LEAST, (int) -(rest >> 31)});
        terms.add(new int[] {(int) (rest & Check.MOST), 1});
        return terms;
    }
}
