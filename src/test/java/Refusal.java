import java.util.ArrayList;
import java.util.List;
import java.util.function.Consumer;

/** A refused call throws what is due and changes nothing, whatever state the object is in. */
final class Refusal {
    private Refusal() {}

    /** The call is one that every object with n 2 or 4 refuses. */
    static void checkOnAll(String what, Class<? extends RuntimeException> due, Consumer<Subject> call) {
        for (int state = 0; state < states().size(); state++) {
            check(what + " in state " + state, due, states().get(state), states().get(state), call);
        }
    }

    static void checkOnUnfolded(String what, Class<? extends RuntimeException> due, Consumer<Subject> call) {
        for (int state = 0; state < unfolded().size(); state++) {
            check(what + " in state " + state, due, unfolded().get(state), unfolded().get(state), call);
        }
    }

    /** The twin has the same calls behind it, but for the refused one. */
    private static void check(String what, Class<? extends RuntimeException> due,
            Subject x, Subject twin, Consumer<Subject> call) {
        Check.throwing(what, due, () -> call.accept(x));
        Check.same("after " + what + " all that is told", told(twin), told(x));
        goOn(twin);
        goOn(x);
        Check.same("later on after " + what + " all that is told", told(twin), told(x));
    }

    /** Brings to light what is held inside but not yet told. */
    private static void goOn(Subject x) {
        x.power(3);
        x.swap();
        try {
            x.keep();
        } catch (IllegalStateException e) {
            x.fold(1);
        }
        x.fold(2);
    }

    private static List<Subject> states() {
        List<Subject> all = unfolded();
        for (int kind = 0; kind <= 2; kind++) {
            Subject folded = set();
            folded.fold(kind);
            all.add(folded);
            Subject movedOn = set();
            movedOn.fold(kind);
            movedOn.withA(5, 6, 7, 8).swap();
            all.add(movedOn);
        }
        return all;
    }

    private static List<Subject> unfolded() {
        List<Subject> all = new ArrayList<>();
        all.add(new Subject());
        all.add(set());
        Subject powered = set();
        powered.power(2);
        all.add(powered);
        Subject sizedAgain = set();
        sizedAgain.fold(2);
        sizedAgain.size(2);
        all.add(sizedAgain.withA(1, 2).withB(0, 0, 3, 4));
        return all;
    }

    private static Subject set() {
        return Subject.sized(2).withA(3, -1, 4, Check.LEAST).withB(2, Check.MOST, -1, 8);
    }

    /** n, both rows and all results, as the object's own calls tell them. */
    private static String told(Subject x) {
        StringBuilder text = new StringBuilder();
        for (int i = 0; isThere(x::a, i); i++) {
            text.append(" a ").append(x.a(i));
        }
        for (int i = 0; isThere(x::b, i); i++) {
            text.append(" b ").append(x.b(i));
        }
        for (int i = 0; isThere(x::high, i); i++) {
            text.append(" s ").append(x.high(i)).append(' ').append(x.low(i));
            for (int prime = 0; prime < 3; prime++) {
                text.append(' ').append(x.rest(prime, i));
            }
        }
        return text.append(" w ").append(x.root(0, 1)).toString();
    }

    private static boolean isThere(Consumer<Integer> method, int i) {
        try {
            method.accept(i);
            return true;
        } catch (IndexOutOfBoundsException e) {
            return false;
        }
    }
}
