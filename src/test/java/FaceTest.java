import java.lang.reflect.Constructor;
import java.lang.reflect.Field;
import java.lang.reflect.Method;
import java.lang.reflect.Modifier;
import java.nio.file.Files;
import java.nio.file.Path;
import java.util.Set;
import java.util.TreeSet;
import java.util.regex.Matcher;
import java.util.regex.Pattern;

/** The public face of the document, and those rules of LANGUAGE.md that can be seen from outside. */
public final class FaceTest {
    private static final Checks C = new Checks();

    private static final String[] METHODS = {
        "int garden(int,int,int,int)", "int ofBlock(int,int)", "int becomes(int)", "int enact(int)",
        "int hurry(int,int)", "int days(int)", "int look(int)", "int away(int)", "int stroke(int,int)",
        "int years(int,int,int,int,int)", "int comes(int,int)", "int strokes(int,int)", "int round(int,int)",
        "long eden(int)", "int alike(int,int)", "int laws(int,int,int,int,int)", "int reading(int,int,int)",
        "int back(int)", "int paces(int)", "int kinds(int)", "long starts(int)", "long odds(int,int,int,int)",
        "int sheet(int,int,int)", "int lose(int)", "int put(int,int,int)", "long cell(int,int,int)",
        "int copy(int,int,int,int,int)", "int tell(int)", "int sign(int)", "int as(int,int)", "int trace()",
        "int fault()", "int many(int)"};

    /** What static fields may be: of another type they could keep what one object did for the next. */
    private static final Set<Class<?>> STATIC_TYPES = Set.of(int.class, long.class, boolean.class, char.class, String.class,
        int[].class, long[].class, char[].class, byte[].class);

    public static void main(String[] args) throws Exception {
        face();
        constants();
        classesInside();
        source();
        room();
        C.finish();
    }

    private static void face() {
        Set<String> due = new TreeSet<>(Set.of(METHODS));
        Set<String> found = new TreeSet<>();
        Set<String> publicNames = new TreeSet<>();
        for (Method m : MarbleGarden.class.getDeclaredMethods()) {
            if (Modifier.isPublic(m.getModifiers())) {
                StringBuilder line = new StringBuilder(m.getReturnType() + " " + m.getName() + "(");
                for (Class<?> p : m.getParameterTypes()) {
                    line.append(line.charAt(line.length() - 1) == '(' ? "" : ",").append(p);
                }
                found.add(line.append(')').toString());
                publicNames.add(m.getName());
                C.due("static " + m, Modifier.isStatic(m.getModifiers()) ? 1 : 0, 0);
            }
        }
        C.due("public methods " + found, found.equals(due) ? 1 : 0, 1);
        for (Method m : MarbleGarden.class.getDeclaredMethods()) {
            boolean fine = Modifier.isPublic(m.getModifiers())
                || Modifier.isPrivate(m.getModifiers()) && !publicNames.contains(m.getName());
            C.due("hidden " + m, fine ? 1 : 0, 1);
        }
        Constructor<?>[] made = MarbleGarden.class.getDeclaredConstructors();
        C.due("constructors", made.length, 1);
        C.due("its numbers", made[0].getParameterCount(), 0);
        C.due("public", Modifier.isPublic(made[0].getModifiers()) ? 1 : 0, 1);
        int kind = MarbleGarden.class.getModifiers();
        C.due("public and final", Modifier.isPublic(kind) && Modifier.isFinal(kind) ? 1 : 0, 1);
    }

    private static void constants() throws Exception {
        String[] names = {"UNKNOWN", "OUTSIDE", "STATE", "FULL", "NONE", "LOST"};
        long[] values = {-1, -2, -3, -4, -9, Long.MIN_VALUE};
        int seen = 0;
        for (Field f : MarbleGarden.class.getDeclaredFields()) {
            if (!Modifier.isPrivate(f.getModifiers())) {
                seen++;
            }
        }
        C.due("constants to be seen", seen, names.length);
        for (int c = 0; c < names.length; c++) {
            Field f = MarbleGarden.class.getField(names[c]);
            C.due(names[c], ((Number) f.get(null)).longValue(), values[c]);
            C.due("type of " + f, f.getType() == (names[c].equals("LOST") ? long.class : int.class) ? 1 : 0, 1);
        }
    }

    private static void staticFields(Class<?> c) {
        for (Field f : c.getDeclaredFields()) {
            int how = f.getModifiers();
            boolean fine = !Modifier.isStatic(how) || Modifier.isFinal(how) && STATIC_TYPES.contains(f.getType());
            C.due("static field " + f, fine ? 1 : 0, 1);
        }
    }

    private static void classesInside() {
        staticFields(MarbleGarden.class);
        Class<?>[] inside = MarbleGarden.class.getDeclaredClasses();
        C.due("at most twelve classes", inside.length <= 11 ? 1 : 0, 1);
        for (Class<?> c : inside) {
            int how = c.getModifiers();
            boolean fine = Modifier.isStatic(how) && !Modifier.isPublic(how) && !Modifier.isProtected(how);
            C.due("class " + c, fine ? 1 : 0, 1);
            staticFields(c);
            int fields = 0;
            for (Field f : c.getDeclaredFields()) {
                fields += Modifier.isStatic(f.getModifiers()) ? 0 : 1;
            }
            C.due("at most twenty fields " + c, fields <= 20 ? 1 : 0, 1);
            for (Method m : c.getDeclaredMethods()) {
                C.due("seven parameters " + m, m.getParameterCount() <= 7 ? 1 : 0, 1);
            }
        }
    }

    private static void source() throws Exception {
        String code = Files.readString(Path.of("src/main/java/MarbleGarden.java"));
        code = code.replaceAll("(?s)/\\*.*?\\*/", " ").replaceAll("//[^\n]*", " ");
        Matcher m = Pattern.compile("\\b(throw|throws|try|catch|synchronized|assert|package|native|volatile"
            + "|System\\.(?!arraycopy)\\w+|Thread|Random|[A-Za-z]+Exact|hashCode|toString|Object)\\b|->|::").matcher(code);
        C.due("words that are ruled out", m.find() ? 1 : 0, 0);
        Matcher imported = Pattern.compile("\\bimport\\s+([\\w.*]+)").matcher(code);
        while (imported.find()) {
            C.due(imported.group(), Set.of("java.util.Arrays").contains(imported.group(1)) ? 1 : 0, 1);
        }
    }

    /** A run's room is small: no call makes anything; all is made with the object. */
    private static void room() {
        var threads = (com.sun.management.ThreadMXBean) java.lang.management.ManagementFactory.getThreadMXBean();
        MarbleGarden x = Checks.gardenOf("g030;b011;n122;h331;b774;n442;h044");
        Checks.fill(x, 1, Checks.INTS, 99, 0, 0, 1, 99, 0, 0, 2);
        Checks.fill(x, 2, Checks.INTS, 1, 35, 54, 0);
        everyCall(Checks.gardenOf("g030;b011;n122;h331;b774;n442;h044"));
        long before = threads.getCurrentThreadAllocatedBytes();
        long sum = 0;
        for (int turn = 0; turn < 12; turn++) {
            sum += everyCall(x);
        }
        long made = threads.getCurrentThreadAllocatedBytes() - before;
        C.due("bytes made by 400 calls (" + sum + ") stay few: " + made, made < 4096 ? 1 : 0, 1);
    }

    private static long everyCall(MarbleGarden x) {
        long sum = x.garden(0, 0, 0, 34) + x.ofBlock(0, 3) + x.becomes(1) + x.enact(30) + x.hurry(1, 2) + x.days(300);
        sum += x.look(0) + x.away(0) + x.stroke(1, 1) + x.years(1, 2, 0, 4, 4) + x.comes(5, 63) + x.strokes(5, 42);
        sum += x.round(1, 0) + x.eden(0) + x.alike(0, 5) + x.laws(2, 2, 0, 3, 0) + x.reading(5, 99, 0) + x.paces(5);
        sum += x.kinds(5) + x.starts(5) + x.odds(5, 99, 0, 0) + x.back(1) + x.sheet(3, 2, 60) + x.put(3, 0, 1);
        sum += x.cell(3, 0, 2) + x.copy(3, 0, 3, 1, 59) + x.lose(3) + x.tell(2) + x.sign(2) + x.as(0, 2) + x.fault();
        return sum + x.trace() + x.many(0) + x.many(4);
    }
}
