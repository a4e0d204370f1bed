import java.io.IOException;
import java.lang.management.ManagementFactory;
import java.lang.reflect.Constructor;
import java.lang.reflect.Field;
import java.lang.reflect.Method;
import java.lang.reflect.Modifier;
import java.nio.file.Files;
import java.nio.file.Path;
import java.util.ArrayList;
import java.util.Arrays;
import java.util.HashSet;
import java.util.List;
import java.util.Set;
import java.util.TreeSet;
import java.util.regex.Matcher;
import java.util.regex.Pattern;

/** What ../shared/LANGUAGE.md asks, as far as reflection, single words or the room taken show it. */
public final class LanguageTest {
    private static final Set<String> FACE = new TreeSet<>(Arrays.asList(
            "void size(int) IllegalArgumentException",
            "int setA(int,int) IndexOutOfBoundsException",
            "int setB(int,int) IndexOutOfBoundsException",
            "int a(int) IndexOutOfBoundsException",
            "int b(int) IndexOutOfBoundsException",
            "void swap()",
            "int fold(int) IllegalArgumentException",
            "int power(int) IllegalArgumentException",
            "long low(int) IndexOutOfBoundsException",
            "int high(int) IndexOutOfBoundsException",
            "int rest(int,int) IllegalArgumentException IndexOutOfBoundsException",
            "int value(int,int) IllegalArgumentException IndexOutOfBoundsException",
            "int back(int,int) IllegalArgumentException IndexOutOfBoundsException",
            "void keep() IllegalStateException",
            "int product(int,int,int) IllegalArgumentException",
            "int root(int,int) IllegalArgumentException"));

    private static final Path SOURCE = Path.of("src", "main", "java", "ThreePrimes.java");

    /** Words that the rules leave out, with the number of their rule; 0: the lines before rule 1. */
    private static final String[][] LEFT_OUT = {
        {"0", "\\bpackage\\b"},
        {"1", "\\bprotected\\b"},
        {"2", "->"},
        {"2", "::"},
        {"4", "\\bimport\\b(?! java\\.util\\.(Arrays|ArrayList|List|Iterator|NoSuchElementException);)"},
        {"4", "\\w+Exact\\("},
        {"5", "\\bstatic\\s*\\{"},
        {"6", "\\b(finally|synchronized|assert)\\b"},
        {"6", "\\b(getMessage|equals|hashCode|toString)\\("},
        {"6", "\\bthrow\\b(?! new \\w+\\(\\);)"},
        {"13", "\\b(System\\.(?!arraycopy\\()|Thread\\b|Random\\b|Runtime\\b)"},
    };

    private static final int MOST_PARAMETERS = 7;
    private static final int MOST_CLASSES = 12;
    private static final int MOST_FIELDS = 20;

    /** Some room for what the virtual machine does; a call that makes one object takes twice that. */
    private static final long MOST_BYTES_OF_CALLS = 256;
    private static final long MOST_BYTES_OF_OBJECT = 64 * 1024;

    public static void main(String[] args) {
        Check.runTestsOf(LanguageTest.class);
    }

    /** Rule 1. */
    private static void faceIsTheDocuments() {
        Set<String> seen = new TreeSet<>();
        for (Method method : ThreePrimes.class.getDeclaredMethods()) {
            if (Modifier.isPublic(method.getModifiers())) {
                seen.add(told(method));
            }
        }
        Check.that("the face is " + seen + ", due is " + FACE, seen.equals(FACE));
        int modifiers = ThreePrimes.class.getModifiers();
        Check.that("the class is not public final",
                Modifier.isPublic(modifiers) && Modifier.isFinal(modifiers));
        Constructor<?>[] constructors = ThreePrimes.class.getDeclaredConstructors();
        Check.that("there is not one public constructor without parameters",
                constructors.length == 1 && constructors[0].getParameterCount() == 0
                        && Modifier.isPublic(constructors[0].getModifiers()));
    }

    private static String told(Method method) {
        StringBuilder text = new StringBuilder(method.getReturnType().getName());
        text.append(' ').append(method.getName()).append('(');
        for (int i = 0; i < method.getParameterCount(); i++) {
            text.append(i == 0 ? "" : ",").append(method.getParameterTypes()[i].getName());
        }
        text.append(')');
        for (Class<?> thrown : method.getExceptionTypes()) {
            text.append(' ').append(thrown.getSimpleName());
        }
        return text.toString();
    }

    /** Rule 1. */
    private static void noOtherMemberIsSeen() {
        for (Method method : ThreePrimes.class.getDeclaredMethods()) {
            int modifiers = method.getModifiers();
            Check.that(method + " is neither public nor private",
                    Modifier.isPublic(modifiers) || Modifier.isPrivate(modifiers) || method.isSynthetic());
        }
        for (Field field : ThreePrimes.class.getDeclaredFields()) {
            Check.that(field + " is not private", Modifier.isPrivate(field.getModifiers()));
        }
        for (Class<?> inside : ThreePrimes.class.getDeclaredClasses()) {
            int modifiers = inside.getModifiers();
            Check.that(inside + " is not static, or public or protected", Modifier.isStatic(modifiers)
                    && !Modifier.isPublic(modifiers) && !Modifier.isProtected(modifiers));
        }
    }

    /** Rule 1. */
    private static void namesOfTheFaceAreUsedOnce() {
        Set<String> names = new HashSet<>();
        for (String method : FACE) {
            names.add(method.substring(method.indexOf(' ') + 1, method.indexOf('(')));
        }
        for (Method method : ThreePrimes.class.getDeclaredMethods()) {
            Check.that(method + " has a name of the face",
                    Modifier.isPublic(method.getModifiers()) || !names.contains(method.getName()));
        }
        for (Class<?> inside : ThreePrimes.class.getDeclaredClasses()) {
            for (Method method : inside.getDeclaredMethods()) {
                Check.that(method + " has a name of the face", !names.contains(method.getName()));
            }
        }
    }

    /** Rule 5. */
    private static void staticFieldsAreFinal() {
        for (Class<?> type : classes()) {
            for (Field field : type.getDeclaredFields()) {
                Check.that(field + " is static and not final",
                        !Modifier.isStatic(field.getModifiers())
                                || Modifier.isFinal(field.getModifiers()));
            }
        }
    }

    /** Rule 11. */
    private static void nothingIsTooLarge() {
        Check.that("there are " + classes().size() + " classes", classes().size() <= MOST_CLASSES);
        for (Class<?> type : classes()) {
            long fields = Arrays.stream(type.getDeclaredFields())
                    .filter(field -> !Modifier.isStatic(field.getModifiers()))
                    .count();
            Check.that(type + " has " + fields + " fields", fields <= MOST_FIELDS);
            for (Method method : type.getDeclaredMethods()) {
                Check.that(method + " has too many parameters",
                        method.getParameterCount() <= MOST_PARAMETERS);
            }
        }
    }

    /** The class of the document and those inside it. */
    private static List<Class<?>> classes() {
        List<Class<?>> all = new ArrayList<>();
        all.add(ThreePrimes.class);
        for (int i = 0; i < all.size(); i++) {
            all.addAll(Arrays.asList(all.get(i).getDeclaredClasses()));
        }
        return all;
    }

    private static void sourceKeepsToTheRules() throws IOException {
        String code = codeAlone(Files.readString(SOURCE));
        for (String[] leftOut : LEFT_OUT) {
            Matcher found = Pattern.compile(leftOut[1]).matcher(code);
            while (found.find()) {
                Check.that("rule " + leftOut[0] + " leaves out " + lineAt(code, found.start()), false);
            }
        }
        Check.that("no class is found in the source", code.contains("public final class ThreePrimes {"));
    }

    /** Comments and the texts of exceptions are free in their words. */
    private static String codeAlone(String source) {
        return source
                .replaceAll("\"[^\"\n]*\"", "")
                .replaceAll("//[^\n]*", "")
                .replaceAll("(?s)/\\*.*?\\*/", "");
    }

    private static String lineAt(String code, int place) {
        int end = code.indexOf('\n', place);
        return code.substring(code.lastIndexOf('\n', place) + 1, end < 0 ? code.length() : end).trim();
    }

    /** Rule 12. */
    private static void callsMakeNoObjects() {
        bytesOf(LanguageTest::usedObject);
        long ofObject = bytesOf(ThreePrimes::new);
        Check.that("a new object takes " + ofObject + " bytes", ofObject <= MOST_BYTES_OF_OBJECT);
        long ofAll = bytesOf(LanguageTest::usedObject);
        Check.that("512 calls take " + (ofAll - ofObject) + " bytes",
                ofAll - ofObject <= MOST_BYTES_OF_CALLS);
    }

    private static ThreePrimes usedObject() {
        ThreePrimes x = new ThreePrimes();
        for (int round = 0; round < 32; round++) {
            x.size(8);
            x.setA(1, 3 + round);
            x.setB(255, 5);
            x.a(1);
            x.b(1);
            x.swap();
            x.fold(round % 3);
            x.power(1000);
            x.low(0);
            x.high(0);
            x.rest(0, 0);
            x.value(0, 1);
            x.back(0, 1);
            x.keep();
            x.product(0, 1, 1);
            x.root(0, 1);
        }
        return x;
    }

    private static long bytesOf(Check.Call call) {
        com.sun.management.ThreadMXBean threads =
                (com.sun.management.ThreadMXBean) ManagementFactory.getThreadMXBean();
        long thread = Thread.currentThread().getId();
        long before = threads.getThreadAllocatedBytes(thread);
        call.run();
        return threads.getThreadAllocatedBytes(thread) - before;
    }
}
