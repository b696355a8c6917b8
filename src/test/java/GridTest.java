import java.lang.reflect.Method;
import java.lang.reflect.Modifier;
import java.util.Arrays;

/**
 * Every call with every mix of numbers at the ends of the document's ranges, the least and the greatest int among them, on
 * a MarbleGarden and on PlainGarden: so that whichever refusals and FAULTS come together, the same one is told.
 */
public final class GridTest {
    private static final int[] WIDE = {Integer.MIN_VALUE, -61, -1, 0, 1, 2, 3, 4, 5, 6, 8, 9, 10, 15, 16, 19, 20, 21, 34, 59,
        60, 61, 63, 64, 99, 100, 255, 256, 300, 301, Integer.MAX_VALUE};
    private static final int[] NARROW = {Integer.MIN_VALUE, -1, 0, 1, 2, 3, 4, 20, 21, 60, Integer.MAX_VALUE};
    private static final int MOST_CALLS_OF_A_GRID = 200;

    private final int scene;
    private MarbleGarden real;
    private PlainGarden plain;
    private int calls;
    private int asked;
    private int wrong;

    private GridTest(int scene) {
        this.scene = scene;
    }

    public static void main(String[] args) throws Exception {
        int asked = 0;
        int wrong = 0;
        for (int scene = 0; scene < 3; scene++) {
            GridTest grid = new GridTest(scene);
            for (Method m : MarbleGarden.class.getDeclaredMethods()) {
                if (Modifier.isPublic(m.getModifiers())) {
                    grid.real = null;
                    grid.askAll(m, new int[m.getParameterCount()], 0);
                }
            }
            asked += grid.asked;
            wrong += grid.wrong;
        }
        System.out.println(asked + " answers, " + wrong + " of them not as due");
        if (wrong != 0 || asked == 0) {
            System.exit(1);
        }
    }

    private void askAll(Method m, int[] numbers, int place) throws Exception {
        if (place == numbers.length) {
            askOne(m, numbers);
            return;
        }
        for (int v : numbers.length <= 3 ? WIDE : NARROW) {
            numbers[place] = v;
            askAll(m, numbers, place + 1);
        }
    }

    private void askOne(Method m, int[] numbers) throws Exception {
        if (real == null || calls > MOST_CALLS_OF_A_GRID) {
            begin();
        }
        calls += 2;
        asked++;
        long got = ((Number) m.invoke(real, Arrays.stream(numbers).boxed().toArray())).longValue();
        long want = plain.call(m.getName(), numbers);
        long fault = plain.call("fault", new int[0]);
        int faultTold = real.fault();
        if (got != want || fault != faultTold) {
            wrong++;
            if (wrong <= 20) {
                System.out.println("scene " + scene + ": " + m.getName() + Arrays.toString(numbers) + " answered " + got
                    + " and fault " + faultTold + ", due is " + want + " and " + fault);
            }
        }
    }

    /** Scene 0 has no GARDEN, 1 three BLOCKS and short rows, 2 six BLOCKS, full rows and eight READINGS. */
    private void begin() throws Exception {
        real = new MarbleGarden();
        plain = new PlainGarden();
        calls = 0;
        if (scene == 1) {
            write(0, 0, "g170;b011;n122;h051".chars().toArray());
            both("garden", 0, 0, 0, 19);
            both("look", 1);
            both("days", 2);
            both("reading", 0, 1, 8);
        }
        if (scene == 2) {
            write(0, 0, "g045;b371;n774;h001;b142;n101;h314".chars().toArray());
            both("garden", 0, 0, 0, 34);
            for (int r = 0; r < 8; r++) {
                both("reading", 3, 0, 12);
            }
        }
        write(1, 1, scene == 2 ? new int[60] : new int[] {1, 0, 3});
        write(2, 1, scene == 0 ? new int[0] : new int[] {0, 1, 64});
    }

    private void write(int sheet, int lane, int... numbers) throws Exception {
        both("sheet", sheet, lane, numbers.length);
        for (int i = 0; i < numbers.length; i++) {
            if (numbers[i] != 0) {
                both("put", sheet, i, numbers[i]);
            }
        }
    }

    private void both(String name, int... numbers) throws Exception {
        Class<?>[] types = new Class<?>[numbers.length];
        Arrays.fill(types, int.class);
        MarbleGarden.class.getMethod(name, types).invoke(real, Arrays.stream(numbers).boxed().toArray());
        plain.call(name, numbers);
    }
}
