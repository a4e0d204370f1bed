import java.lang.management.ManagementFactory;
import java.lang.reflect.Constructor;
import java.lang.reflect.Field;
import java.lang.reflect.Method;
import java.lang.reflect.Modifier;
import java.util.Arrays;
import java.util.HashSet;
import java.util.Set;
import java.util.TreeSet;

/** What ../shared/LANGUAGE.md asks of the face (rule 1), of static fields (5) and of the room (12). */
public final class LanguageTest {
    private static final Set<String> FACE = new TreeSet<>(Arrays.asList(
            "void size(int) IllegalArgumentException",
            "int setA(int,int) IndexOutOfBoundsException",
            "int setB(int,int) IndexOutOfBoundsException",
            "int a(int) IndexOutOfBoundsException",
            "int b(int) IndexOutOfBoundsException",
            "void swap()",
            "int fold(int) IllegalArgumentException",
            "int power(int) IllegalArgumentException",
            "long low(int) IndexOutOfBoundsException",
            "int high(int) IndexOutOfBoundsException",
            "int rest(int,int) IllegalArgumentException IndexOutOfBoundsException",
            "int value(int,int) IllegalArgumentException IndexOutOfBoundsException",
            "int back(int,int) IllegalArgumentException IndexOutOfBoundsException",
            "void keep() IllegalStateException",
            "int product(int,int,int) IllegalArgumentException",
            "int root(int,int) IllegalArgumentException"));

    /** A run of calls may take 7.3 million elements; 512 calls of ours take none, so this is ample. */
    private static final long MOST_BYTES_OF_CALLS = 64 * 1024;
    private static final long MOST_BYTES_OF_OBJECT = 64 * 1024;

    public static void main(String[] args) {
        faceIsTheDocuments();
        noOtherMemberIsSeen();
        namesOfTheFaceAreUsedOnce();
        staticFieldsAreFinal();
        callsMakeNoObjects();
        Check.end();
    }

    private static void faceIsTheDocuments() {
        Set<String> seen = new TreeSet<>();
        for (Method method : ThreePrimes.class.getDeclaredMethods()) {
            if (Modifier.isPublic(method.getModifiers())) {
                seen.add(told(method));
            }
        }
        Check.that("the face is " + seen + ", due is " + FACE, seen.equals(FACE));
        int modifiers = ThreePrimes.class.getModifiers();
        Check.that("the class is not public final",
                Modifier.isPublic(modifiers) && Modifier.isFinal(modifiers));
        Constructor<?>[] constructors = ThreePrimes.class.getDeclaredConstructors();
        Check.that("there is not one public constructor without parameters",
                constructors.length == 1 && constructors[0].getParameterCount() == 0
                        && Modifier.isPublic(constructors[0].getModifiers()));
    }

    private static String told(Method method) {
        StringBuilder text = new StringBuilder(method.getReturnType().getName());
        text.append(' ').append(method.getName()).append('(');
        for (int i = 0; i < method.getParameterCount(); i++) {
            text.append(i == 0 ? "" : ",").append(method.getParameterTypes()[i].getName());
        }
        text.append(')');
        for (Class<?> thrown : method.getExceptionTypes()) {
            text.append(' ').append(thrown.getSimpleName());
        }
        return text.toString();
    }

    private static void noOtherMemberIsSeen() {
        for (Method method : ThreePrimes.class.getDeclaredMethods()) {
            int modifiers = method.getModifiers();
            Check.that(method + " is neither public nor private",
                    Modifier.isPublic(modifiers) || Modifier.isPrivate(modifiers) || method.isSynthetic());
        }
        for (Field field : ThreePrimes.class.getDeclaredFields()) {
            Check.that(field + " is not private", Modifier.isPrivate(field.getModifiers()));
        }
        for (Class<?> inside : ThreePrimes.class.getDeclaredClasses()) {
            int modifiers = inside.getModifiers();
            Check.that(inside + " is not static, or public or protected", Modifier.isStatic(modifiers)
                    && !Modifier.isPublic(modifiers) && !Modifier.isProtected(modifiers));
        }
    }

    private static void namesOfTheFaceAreUsedOnce() {
        Set<String> names = new HashSet<>();
        for (String method : FACE) {
            names.add(method.substring(method.indexOf(' ') + 1, method.indexOf('(')));
        }
        for (Method method : ThreePrimes.class.getDeclaredMethods()) {
            Check.that(method + " has a name of the face",
                    Modifier.isPublic(method.getModifiers()) || !names.contains(method.getName()));
        }
        for (Class<?> inside : ThreePrimes.class.getDeclaredClasses()) {
            for (Method method : inside.getDeclaredMethods()) {
                Check.that(method + " has a name of the face", !names.contains(method.getName()));
            }
        }
    }

    private static void staticFieldsAreFinal() {
        for (Field field : ThreePrimes.class.getDeclaredFields()) {
            Check.that(field + " is static and not final", !Modifier.isStatic(field.getModifiers())
                    || Modifier.isFinal(field.getModifiers()));
        }
    }

    private static void callsMakeNoObjects() {
        bytesOf(LanguageTest::useNewObject);
        long ofObject = bytesOf(ThreePrimes::new);
        Check.that("a new object takes " + ofObject + " bytes", ofObject <= MOST_BYTES_OF_OBJECT);
        long ofAll = bytesOf(LanguageTest::useNewObject);
        Check.that("512 calls take " + (ofAll - ofObject) + " bytes",
                ofAll - ofObject <= MOST_BYTES_OF_CALLS);
    }

    private static void useNewObject() {
        ThreePrimes x = new ThreePrimes();
        for (int round = 0; round < 32; round++) {
            x.size(8);
            x.setA(1, 3 + round);
            x.setB(255, 5);
            x.a(1);
            x.b(1);
            x.swap();
            x.fold(round % 3);
            x.power(1000);
            x.low(0);
            x.high(0);
            x.rest(0, 0);
            x.value(0, 1);
            x.back(0, 1);
            x.keep();
            x.product(0, 1, 1);
            x.root(0, 1);
        }
    }

    private static long bytesOf(Check.Call call) {
        com.sun.management.ThreadMXBean threads =
                (com.sun.management.ThreadMXBean) ManagementFactory.getThreadMXBean();
        long thread = Thread.currentThread().getId();
        long before = threads.getThreadAllocatedBytes(thread);
        call.run();
        return threads.getThreadAllocatedBytes(thread) - before;
    }
}
