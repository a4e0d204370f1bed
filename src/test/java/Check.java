import java.lang.reflect.InvocationTargetException;
import java.lang.reflect.Method;
import java.util.Arrays;
import java.util.Comparator;

/** Counts answers that are not as due, prints them, and ends the program with 1 if there were any. */
final class Check {
    static final Class<IllegalArgumentException> ARGUMENT = IllegalArgumentException.class;
    static final Class<IndexOutOfBoundsException> INDEX = IndexOutOfBoundsException.class;
    static final Class<IllegalStateException> STATE = IllegalStateException.class;
    static final int LEAST = Integer.MIN_VALUE;
    static final int MOST = Integer.MAX_VALUE;

    interface Call {
        void run();
    }

    private static int checked = 0;
    private static int wrong = 0;

    private Check() {}

    static void equal(String what, long due, long got) {
        that(what + " answered " + got + ", due is " + due, due == got);
    }

    static void same(String what, String due, String got) {
        that(what + " is " + got + ", due is " + due, due.equals(got));
    }

    static void that(String complaint, boolean holds) {
        checked++;
        if (!holds) {
            wrong++;
            System.out.println(complaint);
        }
    }

    /** The call throws the very class, not one below it. */
    static void throwing(String what, Class<? extends RuntimeException> due, Call call) {
        Class<?> got = null;
        try {
            call.run();
        } catch (RuntimeException e) {
            got = e.getClass();
        }
        that(what + " threw " + got + ", due is " + due, due.equals(got));
    }

    static void rowA(String what, Subject x, int... due) {
        for (int i = 0; i < due.length; i++) {
            equal(what + ": a(" + i + ")", due[i], x.a(i));
        }
    }

    static void rowB(String what, Subject x, int... due) {
        for (int i = 0; i < due.length; i++) {
            equal(what + ": b(" + i + ")", due[i], x.b(i));
        }
    }

    /** The results are these numbers of at most 64 bits, and no more. */
    static void results(String what, Subject x, long... due) {
        for (int i = 0; i < due.length; i++) {
            result(what, x, i, due[i]);
        }
        noResult(what, x, due.length);
        noResult(what, x, -1);
    }

    static void result(String what, Subject x, int i, long due) {
        equal(what + ": low(" + i + ")", due, x.low(i));
        equal(what + ": high(" + i + ")", due < 0 ? -1 : 0, x.high(i));
        for (int prime = 0; prime < 3; prime++) {
            equal(what + ": rest(" + prime + ", " + i + ")",
                    Math.floorMod(due, Subject.PRIMES[prime]), x.rest(prime, i));
        }
    }

    static void noResult(String what, Subject x, int i) {
        throwing(what + ": low(" + i + ")", INDEX, () -> x.low(i));
        throwing(what + ": high(" + i + ")", INDEX, () -> x.high(i));
        for (int p = 0; p < 3; p++) {
            int prime = p;
            throwing(what + ": rest(" + prime + ", " + i + ")", INDEX, () -> x.rest(prime, i));
        }
    }

    /** No folding is known: there is no result at all and nothing to keep. */
    static void nothingFolded(String what, Subject x) {
        noResult(what, x, 0);
        throwing(what + ": keep()", STATE, x::keep);
    }

    /** Runs every test of the class, so that none is left out: its void methods without parameters. */
    static void runTestsOf(Class<?> tests) {
        Method[] methods = tests.getDeclaredMethods();
        Arrays.sort(methods, Comparator.comparing(Method::getName));
        for (Method method : methods) {
            boolean isTest = method.getParameterCount() == 0 && method.getReturnType() == void.class;
            if (isTest && !method.isSynthetic()) {
                runTest(method);
            }
        }
        end();
    }

    private static void runTest(Method test) {
        int wrongBefore = wrong;
        try {
            test.setAccessible(true);
            test.invoke(null);
        } catch (InvocationTargetException e) {
            that(test.getName() + " ended with " + e.getCause(), false);
            e.getCause().printStackTrace(System.out);
        } catch (IllegalAccessException e) {
            that(test.getName() + " can't be run: " + e, false);
        }
        if (wrong != wrongBefore) {
            System.out.println("FAILED TEST: " + test.getName());
        }
    }

    static void end() {
        System.out.println(checked + " checks, " + wrong + " wrong");
        if (wrong != 0) {
            System.exit(1);
        }
    }
}
