import java.lang.reflect.InvocationTargetException;
import java.lang.reflect.Method;
import java.lang.reflect.Modifier;
import java.util.Arrays;
import java.util.Comparator;

/** Keeps which sentence of the document is being held to, and counts the answers that are not as it says. */
final class Edges {
    static final int UNKNOWN = -1, OUTSIDE = -2, STATE = -3, FULL = -4, NONE = -9;
    static final long LOST = Long.MIN_VALUE;
    static final int NULL = 1, CAST = 2, INDEX = 3, SIZE = 4;
    static final int BYTES = 0, SHORTS = 1, INTS = 2;
    static final int MIN = Integer.MIN_VALUE, MAX = Integer.MAX_VALUE;

    private static Document document;
    private static String sentence;
    private static int tests;
    private static int asked;
    private static int wrong;

    private Edges() {
    }

    static void begin() throws Exception {
        if (Document.isThere()) {
            document = new Document();
        } else {
            System.out.println("the document is not there: its sentences are not looked up");
        }
    }

    /** Each static method that takes and gives nothing is the test of one sentence. */
    static void runAll(Class<?> part) throws Exception {
        Method[] methods = part.getDeclaredMethods();
        Arrays.sort(methods, Comparator.comparing(Method::getName));
        for (Method m : methods) {
            if (Modifier.isStatic(m.getModifiers()) && m.getParameterCount() == 0 && m.getReturnType() == void.class) {
                runOne(m);
            }
        }
    }

    private static void runOne(Method test) throws Exception {
        sentence = null;
        int before = asked;
        tests++;
        try {
            test.setAccessible(true);
            test.invoke(null);
        } catch (InvocationTargetException e) {
            fail(test.getName() + " ended with " + e.getCause());
        }
        if (sentence == null || asked == before) {
            fail(test.getName() + " says no sentence, or asks nothing");
        }
    }

    /** The test that begins holds to this sentence of a promise. */
    static void promise(int number, String words) {
        tell("Promise " + number, "promise " + number, words);
    }

    /** The test that begins holds to this sentence of "Terms", on calls of these promises. */
    static void terms(String words, int... promises) {
        tell("Terms", "Terms, promises " + Arrays.toString(promises), words);
    }

    static void whatItIs(String words) {
        tell("What it is", "What it is, all promises", words);
    }

    private static void tell(String section, String name, String words) {
        if (sentence != null) {
            fail("a test holds to one sentence: " + words);
        }
        sentence = name + ", \"" + words + "\"";
        quote(section, words);
    }

    /** Words that name no case of their own. */
    static void namesNoEdge(String section, String words) {
        quote(section, words);
    }

    private static void quote(String section, String words) {
        if (document != null && !document.quote(section, words)) {
            fail("the document has no such words in " + section + ": " + words);
        }
    }

    static void due(String call, long got, long want) {
        due(call, got == want, got + ", due is " + want);
    }

    static void due(String call, boolean asDue, String answer) {
        asked++;
        if (!asDue) {
            fail(sentence + ": " + call + " answered " + answer);
        }
    }

    private static void fail(String line) {
        wrong++;
        if (wrong <= 40) {
            System.out.println(line);
        }
    }

    static void finish() {
        if (document != null) {
            for (String words : document.unquoted()) {
                fail("no test holds to " + words);
            }
        }
        System.out.println(tests + " sentences, " + asked + " answers, " + wrong + " of them not as due");
        if (wrong != 0 || asked == 0) {
            System.exit(1);
        }
    }
}
