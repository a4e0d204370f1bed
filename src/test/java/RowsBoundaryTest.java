/** The boundary cases of promises 1 to 7: a new object, sizes, places of both rows, swaps. */
public final class RowsBoundaryTest {
    private static final int LEAST = Check.LEAST;
    private static final int MOST = Check.MOST;

    /** Places that no n of 2 or 4 has; as bytes, shorts or lowest bits they would be good ones. */
    private static final int[] NEVER_PLACES = {
        -1, -2, -256, LEAST, LEAST + 1, 4, 5, 255, 256, 257, 512, 65536, MOST
    };

    public static void main(String[] args) {
        Check.runTestsOf(RowsBoundaryTest.class);
    }

    /** Promise 1: "n is 2". */
    private static void promise1NIsTwo() {
        Subject x = new Subject();
        Check.equal("1: a(1)", 0, x.a(1));
        Check.equal("1: b(1)", 0, x.b(1));
        Check.throwing("1: a(2)", Check.INDEX, () -> x.a(2));
        Check.throwing("1: b(2)", Check.INDEX, () -> x.b(2));
        Check.throwing("1: setA(2, 1)", Check.INDEX, () -> x.setA(2, 1));
        Check.throwing("1: setB(2, 1)", Check.INDEX, () -> x.setB(2, 1));
        Check.throwing("1: value(0, 2)", Check.INDEX, () -> x.value(0, 2));
        Check.throwing("1: back(0, 2)", Check.INDEX, () -> x.back(0, 2));
        Check.equal("1: root(1, 1) is that for n 2", 167772160, x.root(1, 1));
        Check.equal("1: fold(0)", 2, x.fold(0));
        Check.equal("1: fold(1)", 2, x.fold(1));
        Check.equal("1: fold(2)", 3, x.fold(2));
    }

    /** Promise 1: "both rows 0". */
    private static void promise1BothRowsAreZero() {
        Subject x = new Subject();
        Check.rowA("1", x, 0, 0);
        Check.rowB("1", x, 0, 0);
        Check.equal("1: setA answers the 0", 0, x.setA(1, 5));
        Check.equal("1: setB answers the 0", 0, x.setB(1, 5));
    }

    /** Promise 1: "nothing was folded". */
    private static void promise1NothingWasFolded() {
        Subject x = new Subject();
        Check.nothingFolded("1", x);
        Check.noResult("1", x, 1);
        Check.noResult("1", x, -1);
    }

    /** Promise 1: a new object is new, whatever others have done. */
    private static void promise1ObjectsAreApart() {
        Subject used = Subject.sized(8).withA(1, 2, 3).withB(4, 5, 6);
        used.fold(2);
        Subject x = new Subject();
        Check.rowA("1 beside another", x, 0, 0);
        Check.rowB("1 beside another", x, 0, 0);
        Check.nothingFolded("1 beside another", x);
        x.withA(7, 8).fold(0);
        Check.rowA("1 the other", used, 1, 2, 3);
        Check.equal("1 the other: low(4)", 18, used.low(4));
    }

    /** Promise 2: the smallest k is 1. */
    private static void promise2SmallestK() {
        Subject x = Subject.sized(2);
        x.size(1);
        checkN("2 size(1)", x, 2);
    }

    /** Promise 2: the largest k is 8. */
    private static void promise2LargestK() {
        checkN("2 size(8)", Subject.sized(8), 256);
    }

    /** Promise 2: "n is 2 to the k", for every k between, upwards and downwards on one object. */
    private static void promise2EveryK() {
        Subject x = new Subject();
        for (int k = 1; k <= 8; k++) {
            x.size(k);
            checkN("2 size(" + k + ") upwards", x, 1 << k);
        }
        for (int k = 8; k >= 1; k--) {
            x.size(k);
            checkN("2 size(" + k + ") downwards", x, 1 << k);
        }
    }

    private static void checkN(String what, Subject x, int n) {
        Check.equal(what + ": a(n - 1)", 0, x.a(n - 1));
        Check.equal(what + ": b(n - 1)", 0, x.b(n - 1));
        Check.throwing(what + ": a(n)", Check.INDEX, () -> x.a(n));
        Check.throwing(what + ": b(n)", Check.INDEX, () -> x.b(n));
        Check.equal(what + ": fold(0)", n, x.fold(0));
        Check.equal(what + ": fold(2)", 2 * n - 1, x.fold(2));
        Check.equal(what + ": root(2, n / 2)", 469762048, x.root(2, n / 2));
        Check.equal(what + ": root(2, n)", 1, x.root(2, n));
    }

    /** Promise 2: "k is not 1 to 8", too small; as shift counts -31 and -24 would be 1 and 8. */
    private static void promise2KTooSmall() {
        for (int k : new int[] {0, -1, -2, -8, -24, -31, LEAST, LEAST + 1}) {
            Refusal.checkOnAll("2 size(" + k + ")", Check.ARGUMENT, x -> x.size(k));
        }
    }

    /** Promise 2: "k is not 1 to 8", too large; as shift counts 33 and 40 would be 1 and 8. */
    private static void promise2KTooLarge() {
        for (int k : new int[] {9, 10, 16, 31, 32, 33, 40, 256, 257, MOST}) {
            Refusal.checkOnAll("2 size(" + k + ")", Check.ARGUMENT, x -> x.size(k));
        }
    }

    /** Promise 2: "both rows are 0", with the same k too. */
    private static void promise2SameKMakesRowsZero() {
        Subject x = Subject.sized(2).withA(1, 2, 3, 4).withB(5, 6, 7, 8);
        x.size(2);
        Check.rowA("2 the same k", x, 0, 0, 0, 0);
        Check.rowB("2 the same k", x, 0, 0, 0, 0);
    }

    /** Promise 2: "both rows are 0", at the places of a larger n used before too. */
    private static void promise2LargerNAgainMakesRowsZero() {
        Subject x = Subject.sized(8);
        for (int i = 1; i < 256; i += 2) {
            x.setA(i, i);
            x.setB(i, -i);
        }
        x.size(1);
        Check.rowA("2 smaller", x, 0, 0);
        Check.rowB("2 smaller", x, 0, 0);
        x.swap();
        x.size(8);
        for (int i = 1; i < 256; i += 4) {
            Check.equal("2 larger again: a(" + i + ")", 0, x.a(i));
            Check.equal("2 larger again: b(" + i + ")", 0, x.b(i));
        }
    }

    /** Promise 2: "nothing was folded", with the same, a smaller and a larger k. */
    private static void promise2NothingWasFolded() {
        for (int kind = 0; kind <= 2; kind++) {
            for (int k = 1; k <= 3; k++) {
                Subject x = Subject.sized(2).withA(1, 2, 3, 4).withB(5, 6, 7, 8);
                x.fold(kind);
                x.size(k);
                Check.nothingFolded("2 size(" + k + ") after fold(" + kind + ")", x);
            }
        }
    }

    /** Promise 3: the first and the last place, and none beside them, for every n. */
    private static void promise3FirstAndLastPlace() {
        for (int k = 1; k <= 8; k++) {
            Subject x = Subject.sized(k);
            int n = 1 << k;
            Check.equal("3 n " + n + ": setA(0)", 0, x.setA(0, 11));
            Check.equal("3 n " + n + ": setA(n - 1)", 0, x.setA(n - 1, 12));
            Check.throwing("3 n " + n + ": setA(-1)", Check.INDEX, () -> x.setA(-1, 13));
            Check.throwing("3 n " + n + ": setA(n)", Check.INDEX, () -> x.setA(n, 14));
            Check.equal("3 n " + n + ": a(0)", 11, x.a(0));
            Check.equal("3 n " + n + ": a(n - 1)", 12, x.a(n - 1));
        }
    }

    /** Promise 3: "there is no such place". */
    private static void promise3NoSuchPlace() {
        for (int i : NEVER_PLACES) {
            Refusal.checkOnAll("3 setA(" + i + ", 9)", Check.INDEX, x -> x.setA(i, 9));
        }
    }

    /** Promise 3: places of a larger n used before are none. */
    private static void promise3PlacesOfALargerN() {
        Subject x = Subject.sized(8);
        x.setA(2, 5);
        x.size(1);
        for (int i : new int[] {2, 3, 4, 128, 255}) {
            Check.throwing("3 setA(" + i + ") for n 2", Check.INDEX, () -> x.setA(i, 1));
        }
    }

    /** Promise 3: every int can be set: the extremes of sign and size. */
    private static void promise3AnswersWhatItWas() {
        Subject x = Subject.sized(1);
        int was = 0;
        for (int v : new int[] {LEAST, MOST, -1, 0, 1, 998244353, -998244354, LEAST, LEAST}) {
            Check.equal("3 setA(1, " + v + ")", was, x.setA(1, v));
            Check.equal("3 a(1)", v, x.a(1));
            was = v;
        }
        Check.equal("3 the other place", 0, x.a(0));
        Check.rowB("3 the other row", x, 0, 0);
    }

    /** Promise 3: what it was may come from swap, power or keep. */
    private static void promise3AnswersWhatOthersMade() {
        Subject x = Subject.sized(1).withA(2, 3).withB(5, 7);
        x.swap();
        Check.equal("3 after swap()", 5, x.setA(0, 2));
        x.power(2);
        Check.equal("3 after power(2)", 53, x.setA(0, 1));
        x.fold(2);
        x.keep();
        Check.equal("3 after keep()", 2, x.setA(0, 0));
    }

    /** Promise 4: the first and the last place, and none beside them, for every n. */
    private static void promise4FirstAndLastPlace() {
        for (int k = 1; k <= 8; k++) {
            Subject x = Subject.sized(k);
            int n = 1 << k;
            Check.equal("4 n " + n + ": setB(0)", 0, x.setB(0, 11));
            Check.equal("4 n " + n + ": setB(n - 1)", 0, x.setB(n - 1, 12));
            Check.throwing("4 n " + n + ": setB(-1)", Check.INDEX, () -> x.setB(-1, 13));
            Check.throwing("4 n " + n + ": setB(n)", Check.INDEX, () -> x.setB(n, 14));
            Check.equal("4 n " + n + ": b(0)", 11, x.b(0));
            Check.equal("4 n " + n + ": b(n - 1)", 12, x.b(n - 1));
        }
    }

    /** Promise 4: "there is no such place". */
    private static void promise4NoSuchPlace() {
        for (int i : NEVER_PLACES) {
            Refusal.checkOnAll("4 setB(" + i + ", 9)", Check.INDEX, x -> x.setB(i, 9));
        }
    }

    /** Promise 4: places of a larger n used before are none. */
    private static void promise4PlacesOfALargerN() {
        Subject x = Subject.sized(8);
        x.setB(2, 5);
        x.size(1);
        for (int i : new int[] {2, 3, 4, 128, 255}) {
            Check.throwing("4 setB(" + i + ") for n 2", Check.INDEX, () -> x.setB(i, 1));
        }
    }

    /** Promise 4: every int can be set: the extremes of sign and size. */
    private static void promise4AnswersWhatItWas() {
        Subject x = Subject.sized(1);
        int was = 0;
        for (int v : new int[] {LEAST, MOST, -1, 0, 1, 998244353, -998244354, LEAST, LEAST}) {
            Check.equal("4 setB(1, " + v + ")", was, x.setB(1, v));
            Check.equal("4 b(1)", v, x.b(1));
            was = v;
        }
        Check.equal("4 the other place", 0, x.b(0));
        Check.rowA("4 the other row", x, 0, 0);
    }

    /** Promise 4: what it was may come from swap; power and keep leave row B alone. */
    private static void promise4AnswersWhatOthersMade() {
        Subject x = Subject.sized(1).withA(2, 3).withB(5, 7);
        x.swap();
        x.fold(0);
        x.keep();
        x.power(2);
        Check.equal("4 after swap(), keep(), power(2)", 2, x.setB(0, 1));
        Check.equal("4 after swap(), keep(), power(2)", 3, x.setB(1, 1));
    }

    /** Promise 5: the first and the last place, and none beside them, for every n. */
    private static void promise5FirstAndLastPlace() {
        for (int k = 1; k <= 8; k++) {
            Subject x = Subject.sized(k);
            int n = 1 << k;
            x.setA(0, LEAST);
            x.setA(n - 1, MOST);
            Check.equal("5 n " + n + ": a(0)", LEAST, x.a(0));
            Check.equal("5 n " + n + ": a(n - 1)", MOST, x.a(n - 1));
            Check.throwing("5 n " + n + ": a(-1)", Check.INDEX, () -> x.a(-1));
            Check.throwing("5 n " + n + ": a(n)", Check.INDEX, () -> x.a(n));
        }
    }

    /** Promise 5: "there is no such place". */
    private static void promise5NoSuchPlace() {
        for (int i : NEVER_PLACES) {
            Refusal.checkOnAll("5 a(" + i + ")", Check.INDEX, x -> x.a(i));
        }
    }

    /** Promise 5: places of a larger n used before are none. */
    private static void promise5PlacesOfALargerN() {
        Subject x = Subject.sized(8);
        x.setA(2, 5);
        x.size(1);
        for (int i : new int[] {2, 3, 4, 128, 255}) {
            Check.throwing("5 a(" + i + ") for n 2", Check.INDEX, () -> x.a(i));
        }
    }

    /** Promise 6: the first and the last place, and none beside them, for every n. */
    private static void promise6FirstAndLastPlace() {
        for (int k = 1; k <= 8; k++) {
            Subject x = Subject.sized(k);
            int n = 1 << k;
            x.setB(0, LEAST);
            x.setB(n - 1, MOST);
            Check.equal("6 n " + n + ": b(0)", LEAST, x.b(0));
            Check.equal("6 n " + n + ": b(n - 1)", MOST, x.b(n - 1));
            Check.throwing("6 n " + n + ": b(-1)", Check.INDEX, () -> x.b(-1));
            Check.throwing("6 n " + n + ": b(n)", Check.INDEX, () -> x.b(n));
        }
    }

    /** Promise 6: "there is no such place". */
    private static void promise6NoSuchPlace() {
        for (int i : NEVER_PLACES) {
            Refusal.checkOnAll("6 b(" + i + ")", Check.INDEX, x -> x.b(i));
        }
    }

    /** Promise 6: places of a larger n used before are none. */
    private static void promise6PlacesOfALargerN() {
        Subject x = Subject.sized(8);
        x.setB(2, 5);
        x.size(1);
        for (int i : new int[] {2, 3, 4, 128, 255}) {
            Check.throwing("6 b(" + i + ") for n 2", Check.INDEX, () -> x.b(i));
        }
    }

    /** Promise 7: two rows of 0 change places and stay 0; nothing is folded by it. */
    private static void promise7SwapOfANewObject() {
        Subject x = new Subject();
        x.swap();
        Check.rowA("7 new", x, 0, 0);
        Check.rowB("7 new", x, 0, 0);
        Check.nothingFolded("7 new", x);
    }

    /** Promise 7: all n places change, the first and the last ones of the largest n too. */
    private static void promise7SwapOfEveryPlace() {
        for (int k = 1; k <= 8; k++) {
            Subject x = Subject.sized(k);
            int n = 1 << k;
            int step = Math.max(1, n / 64);
            for (int i = step - 1; i < n; i += step) {
                x.setA(i, i + 1);
                x.setB(i, -i - 1);
            }
            x.setA(0, LEAST);
            x.setB(0, MOST);
            x.swap();
            Check.equal("7 n " + n + ": a(0)", MOST, x.a(0));
            Check.equal("7 n " + n + ": b(0)", LEAST, x.b(0));
            for (int i = step == 1 ? 1 : step - 1; i < n; i += step) {
                Check.equal("7 n " + n + ": a(" + i + ")", -i - 1, x.a(i));
                Check.equal("7 n " + n + ": b(" + i + ")", i + 1, x.b(i));
            }
        }
    }

    /** Promise 7: two swaps undo each other. */
    private static void promise7SwapTwice() {
        Subject x = Subject.sized(1).withA(1, 2).withB(3, 4);
        x.swap();
        x.swap();
        Check.rowA("7 twice", x, 1, 2);
        Check.rowB("7 twice", x, 3, 4);
    }

    /** Promise 7: the rows stay two rows: what is set in one is not seen in the other. */
    private static void promise7RowsStayApart() {
        Subject x = Subject.sized(1).withA(1, 2).withB(3, 4);
        x.swap();
        x.setA(0, 5);
        x.setB(1, 6);
        Check.rowA("7 set after it", x, 5, 4);
        Check.rowB("7 set after it", x, 1, 6);
    }

    /** Promise 7: rows alone change places, the results of the last folding stay. */
    private static void promise7ResultsStay() {
        Subject x = Subject.sized(1).withA(1, 2).withB(3, 4);
        x.fold(2);
        x.swap();
        Check.results("7 after fold(2)", x, 3, 10, 8);
    }

    /** Promise 7: after it value, back, power and keep work on what was row B. */
    private static void promise7OthersSeeTheNewRowA() {
        Subject x = Subject.sized(1).withA(1, 2).withB(3, 7);
        x.swap();
        Check.equal("7 value", 10, x.value(0, 0));
        Check.equal("7 back", 5, x.back(0, 0));
        Check.equal("7 power", 58, x.power(2));
        Check.rowB("7 power", x, 1, 2);
        x.fold(2);
        x.swap();
        x.keep();
        Check.rowA("7 keep", x, 58, 158);
        Check.rowB("7 keep", x, 58, 42);
    }
}
