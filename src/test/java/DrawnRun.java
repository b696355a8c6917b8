import java.lang.reflect.Method;
import java.lang.reflect.Modifier;
import java.util.ArrayList;
import java.util.Arrays;
import java.util.List;
import java.util.Random;

/**
 * A run of calls that are drawn with a fixed seed, on a MarbleGarden and on PlainGarden: as many as an object is used for.
 * What was called is kept with the answers that are due, so that it can be called again on another object.
 */
final class DrawnRun {
    static final int MOST_CALLS = 512;
    static final List<Method> METHODS = methods();
    private static final int[] ODD_NUMBERS = {-1, -2, 61, 64, 100, 256, 301, Integer.MAX_VALUE, Integer.MIN_VALUE};

    /** One call, and its answer by PlainGarden. */
    record Told(Method method, int[] numbers, long due) {
        long callOn(MarbleGarden x) throws Exception {
            return ((Number) method.invoke(x, Arrays.stream(numbers).boxed().toArray())).longValue();
        }

        @Override
        public String toString() {
            return method.getName() + Arrays.toString(numbers) + " = " + due;
        }
    }

    private final Random random;
    private final MarbleGarden real = new MarbleGarden();
    private final PlainGarden plain = new PlainGarden();
    private final List<Told> told = new ArrayList<>();
    private int mostCalls;
    private boolean same = true;

    DrawnRun(long seed) {
        random = new Random(seed);
    }

    private static List<Method> methods() {
        List<Method> found = new ArrayList<>();
        for (Method m : MarbleGarden.class.getDeclaredMethods()) {
            if (Modifier.isPublic(m.getModifiers())) {
                found.add(m);
            }
        }
        found.sort((a, b) -> a.getName().compareTo(b.getName()));
        return found;
    }

    /** All calls that are drawn, the last of them one that is named; false: an answer was not the one that is due. */
    boolean endsAsDueWith(Method last) throws Exception {
        mostCalls = MOST_CALLS - 1;
        while (same && told.size() < mostCalls) {
            switch (random.nextInt(12)) {
                case 0: writeText(); break;
                case 1: writeYears(); break;
                case 2: writeShapes(); break;
                case 3: ask("fault"); break;
                default: askAnyOf(METHODS.get(random.nextInt(METHODS.size())));
            }
        }
        mostCalls = MOST_CALLS;
        askAnyOf(last);
        return same && told.size() == MOST_CALLS;
    }

    List<Told> told() {
        return told;
    }

    private void ask(String name, int... numbers) throws Exception {
        if (!same || told.size() >= mostCalls) {
            return;
        }
        Method method = METHODS.stream().filter(m -> m.getName().equals(name)).findFirst().orElseThrow();
        Told call = new Told(method, numbers.clone(), plain.call(name, numbers));
        told.add(call);
        long got = call.callOn(real);
        if (got != call.due()) {
            same = false;
            told.subList(Math.max(0, told.size() - 60), told.size()).forEach(System.out::println);
            System.out.println("the last one answered " + got);
        }
    }

    private void askAnyOf(Method method) throws Exception {
        int[] numbers = new int[method.getParameterCount()];
        for (int p = 0; p < numbers.length; p++) {
            numbers[p] = number(method.getName(), p);
        }
        ask(method.getName(), numbers);
    }

    /** A number that mostly fits the place, sometimes lies at its edge, now and then is any. */
    private int number(String name, int p) {
        if (random.nextInt(25) == 0) {
            return ODD_NUMBERS[random.nextInt(ODD_NUMBERS.length)];
        }
        switch (name + p) {
            case "garden1", "years1", "laws1", "sheet1", "cell2": return random.nextInt(3);
            case "garden0", "years0", "laws0", "sheet0", "lose0", "put0", "cell0", "copy0", "copy2":
                return random.nextInt(4);
            case "garden2", "garden3", "sheet2": return random.nextInt(40);
            case "years2", "laws2", "put1", "cell1", "copy1", "copy3", "copy4": return random.nextInt(12);
            case "years3", "laws3": return random.nextInt(5);
            case "years4": return random.nextInt(17);
            case "becomes0", "round0", "eden0", "comes1", "strokes1", "reading2", "odds2": return random.nextInt(64);
            case "enact0": return random.nextInt(256);
            case "days0": return random.nextBoolean() ? 1 : random.nextInt(302);
            case "put2": return random.nextBoolean() ? random.nextInt(64) : random.nextInt();
            case "reading1": return random.nextInt(4);
            case "odds1": return random.nextBoolean() ? random.nextInt(4) : random.nextInt(101);
            case "odds3", "round1": return random.nextInt(2);
            case "back0": return random.nextInt(3);
            default: return random.nextInt(7);
        }
    }

    private void write(int sheet, int lane, int... numbers) throws Exception {
        ask("sheet", sheet, lane, numbers.length);
        for (int i = 0; i < numbers.length; i++) {
            ask("put", sheet, i, numbers[i]);
        }
    }

    private void writeText() throws Exception {
        StringBuilder text = new StringBuilder(String.format("g%03d", random.nextInt(256)));
        for (int k = 1 + random.nextInt(7); k > 0; k--) {
            text.append(';').append("bnh".charAt(random.nextInt(3))).append(random.nextInt(8));
            text.append(random.nextInt(8)).append(1 + random.nextInt(4));
        }
        if (random.nextInt(3) == 0) {
            text.setCharAt(random.nextInt(text.length()), ";g0123456789bnh:/".charAt(random.nextInt(17)));
        }
        int n = random.nextInt(4) == 0 ? random.nextInt(text.length() + 1) : text.length();
        int sheet = random.nextInt(4);
        int lane = random.nextInt(3);
        write(sheet, lane, text.chars().toArray());
        ask("garden", sheet, lane, 0, n);
        seeSomething();
    }

    /** READINGS that are often so, as they are taken from what comes. */
    private void seeSomething() throws Exception {
        for (int r = random.nextInt(4); r > 0; r--) {
            int k = random.nextInt(3);
            int shape = ofPlain("ofBlock", k, 1);
            int steps = ofPlain("ofBlock", k, 3);
            int days = random.nextInt(3);
            for (int s = 0; s < days * steps; s++) {
                shape = ofPlain("becomes", shape);
            }
            ask("reading", k, days, shape);
        }
        for (String name : new String[] {"paces", "kinds", "starts"}) {
            ask(name, random.nextInt(4));
        }
    }

    /** Asked of the second garden, so that the first one's 512 calls are spent on what is compared. */
    private int ofPlain(String name, int... numbers) {
        return (int) plain.call(name, numbers);
    }

    private void writeYears() throws Exception {
        int n = random.nextInt(7);
        int[] pairs = new int[2 * n];
        for (int p = 0; p < n; p++) {
            int act = new int[] {0, 0, 1, 2, 1, 10, 11, 12, 13, 14, 15}[random.nextInt(11)];
            pairs[2 * p] = act == 0 ? random.nextInt(random.nextBoolean() ? 8 : 101) : random.nextInt(3);
            pairs[2 * p + 1] = random.nextInt(60) == 0 ? random.nextInt(20) - 2 : act;
        }
        int lane = random.nextInt(3);
        write(1, lane, pairs);
        for (int what : new int[] {0, 1, 2, 3, 4, 10 + random.nextInt(6)}) {
            ask("years", 1, lane, 0, n, what);
        }
    }

    private void writeShapes() throws Exception {
        int n = 1 + random.nextInt(4);
        int[] shapes = new int[n];
        shapes[0] = random.nextInt(64);
        for (int p = 1; p < n; p++) {
            int next = ofPlain("becomes", shapes[p - 1]);
            shapes[p] = next < 0 || random.nextInt(5) == 0 ? random.nextInt(65) : next;
        }
        int lane = random.nextInt(3);
        write(2, lane, shapes);
        for (int what = 0; what < 3; what++) {
            ask("laws", 2, lane, 0, n, what);
        }
    }
}
