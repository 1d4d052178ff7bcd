import java.io.IOException;
import java.lang.reflect.InvocationTargetException;
import java.lang.reflect.Method;
import java.lang.reflect.Modifier;
import java.nio.file.Files;
import java.nio.file.Path;
import java.util.Arrays;
import java.util.Comparator;

/**
 * What the tests of promises share. A test extends this class, since a class without a package
 * can't be imported from.
 */
abstract class Checks {
    static final int BAD = -1, STATE = -2, FULL = -3, NONE = -9, NO = -1000000;
    static final int LOWEST = Integer.MIN_VALUE, HIGHEST = Integer.MAX_VALUE;
    static final int[] WAYS = {0, 1, 2};
    static final int[] NO_WAYS = {-1, 3, LOWEST, HIGHEST};

    private static final Path DOCUMENT = Path.of("../shared/DOC.md");
    private static String sentence = "";
    private static int wrong = 0;

    /** Runs all methods of the test that take nothing, so that none can be forgotten. */
    static void runAll(Class<?> test) throws IllegalAccessException {
        Method[] methods = test.getDeclaredMethods();
        Arrays.sort(methods, Comparator.comparing(Method::getName));
        int run = 0;
        for (Method method : methods) {
            if (method.isSynthetic() || method.getParameterCount() > 0) continue;
            if (!Modifier.isStatic(method.getModifiers()) || method.getReturnType() != void.class) continue;
            sentence = "";
            run++;
            runOne(method);
        }
        System.out.println(test.getName() + ": " + run + " tests, " + wrong + " answers are not as due");
        if (wrong != 0 || run == 0) System.exit(1);
    }

    private static void runOne(Method method) throws IllegalAccessException {
        try {
            method.setAccessible(true);
            method.invoke(null);
        } catch (InvocationTargetException thrown) {
            fail(method.getName() + " threw " + thrown.getCause());
            thrown.getCause().printStackTrace(System.out);
        }
    }

    /** What is checked next is what these words under that head of the document promise. */
    static void says(String head, String words) {
        sentence = head + ", '" + words + "': ";
        if (!wordsUnder(head).contains(words)) fail("the document does not say so");
    }

    private static String wordsUnder(String head) {
        try {
            for (String section : Files.readString(DOCUMENT).split("(?m)^## ")) {
                String words = section.replaceAll("\\s+", " ");
                if (words.startsWith(head + ":") || words.startsWith(head + " ")) return words;
            }
        } catch (IOException unread) {
            fail("the document can't be read: " + unread);
        }
        return "";
    }

    static void fail(String what) {
        wrong++;
        System.out.println(sentence + what);
    }

    static void due(String call, int got, int want) {
        if (got != want) fail(call + " answered " + got + ", due is " + want);
    }

    static void type(JumpLengths x, String text) {
        for (char c : text.toCharArray()) x.type(c);
    }

    static JumpLengths told(String text) {
        JumpLengths x = new JumpLengths();
        type(x, text);
        int items = x.source();
        if (items < 0) due("source of '" + text + "'", items, 0);
        return x;
    }

    /** The text is wrong at the place, and the new object is as it was. */
    static void fault(String text, int place) {
        JumpLengths x = new JumpLengths();
        type(x, text);
        due("source of '" + text + "'", x.source(), -10 - place);
        due("the text behind the fault of '" + text + "'", x.count(8), text.length());
        due("the items behind the fault of '" + text + "'", x.count(0), 0);
        due("the reach behind the fault of '" + text + "'", x.count(5), 20);
    }

    static void right(String text, int items) {
        JumpLengths x = new JumpLengths();
        type(x, text);
        due("source of '" + text + "'", x.source(), items);
        due("the items of '" + text + "'", x.count(0), items);
        due("the text behind '" + text + "'", x.count(8), 0);
    }

    /** The text of OPS that have so many bytes together. */
    static String ops(int bytes) {
        return "o60;".repeat(bytes / 60) + (bytes % 60 == 0 ? "" : "o" + bytes % 60 + ";");
    }

    static void counts(JumpLengths x, String when, int... wants) {
        for (int what = 0; what < wants.length; what++) due("count(" + what + ") " + when, x.count(what), wants[what]);
    }

    static void ways(JumpLengths x, String text, int way, int... wants) {
        for (int what = 0; what < wants.length; what++) {
            due("way(" + way + ", " + what + ") of '" + text + "'", x.way(way, what), wants[what]);
        }
    }

    static void code(JumpLengths x, int way, int... wants) {
        codeFrom(x, way, 0, wants);
        due("code(" + way + ", its size)", x.code(way, wants.length), BAD);
    }

    static void codeFrom(JumpLengths x, int way, int first, int... wants) {
        for (int i = 0; i < wants.length; i++) {
            due("code(" + way + ", " + (first + i) + ")", x.code(way, first + i), wants[i]);
        }
    }

    static void fewest(String text, int many, int which) {
        JumpLengths x = told(text);
        due("fewest(0) of '" + text + "'", x.fewest(0), many);
        due("fewest(1) of '" + text + "'", x.fewest(1), which);
        due("no island is placed by it", x.count(6), 0);
        due("nothing may be undone of it", x.count(7), 0);
    }

    static void odds(String text, int k, int x, int upper, int lower) {
        JumpLengths object = told(text);
        due("odds(" + k + ", " + x + ", 0) of '" + text + "'", object.odds(k, x, 0), upper);
        due("odds(" + k + ", " + x + ", 1) of '" + text + "'", object.odds(k, x, 1), lower);
    }
}
