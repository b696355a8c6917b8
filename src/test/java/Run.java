import java.lang.reflect.InvocationTargetException;
import java.lang.reflect.Method;
import java.lang.reflect.Modifier;
import java.util.ArrayList;
import java.util.Arrays;
import java.util.HashMap;
import java.util.List;
import java.util.Map;
import java.util.Set;
import java.util.StringJoiner;

/**
 * A run of calls on one object, which can be made again on a new one: so that how all stands can be asked, by calls of
 * the document alone, without spending the object's own 512 calls.
 */
final class Run {
    private static final int MOST_CALLS = 512;
    private static final Set<String> NAMING_FAULTS =
        Set.of("garden", "years", "laws", "sheet", "put", "cell", "copy", "as");
    private static final Map<String, Method> METHODS = new HashMap<>();

    static {
        for (Method m : MarbleGarden.class.getDeclaredMethods()) {
            if (Modifier.isPublic(m.getModifiers())) {
                METHODS.put(m.getName(), m);
            }
        }
    }

    private record Call(String name, int[] numbers) {
        @Override
        public String toString() {
            StringJoiner line = new StringJoiner(", ", name + "(", ")");
            Arrays.stream(numbers).forEach(n -> line.add(String.valueOf(n)));
            return line.toString();
        }
    }

    /** Refused or faulty calls that change nothing but fault(): to 0, to SIZE. */
    private static final Call TO_NO_FAULT = new Call("sheet", new int[] {-1, 0, 0});
    private static final Call TO_SIZE = new Call("sheet", new int[] {0, 0, -1});

    private final MarbleGarden object = new MarbleGarden();
    private final List<Call> made = new ArrayList<>();
    private int calls;

    private Run() {
    }

    static Run fresh() {
        return new Run();
    }

    /** A GARDEN by a TEXT that SHEET 0 has as bytes. */
    static Run of(String text) {
        Run x = fresh().text(0, Edges.BYTES, text);
        int n = text.length();
        long blocks = x.call(new Call("garden", new int[] {0, 0, 0, n}));
        if (blocks < 1) {
            throw new IllegalStateException(text + " is no TEXT: " + blocks);
        }
        x.made.add(new Call("garden", new int[] {0, 0, 0, n}));
        return x;
    }

    /**
     * One where a change of anything would show: three BLOCKS of SHAPES 4, 10 and 17, the second LOOKED at, DAY 2, two
     * READINGS that are so, a TRACE; SHEET 1 has three shorts, SHEET 2 two ints, SHEET 3 nothing.
     */
    static Run busy() {
        Run x = of("g170;b011;n122;h051");
        x.row(1, Edges.SHORTS, 7, -300, 300).row(2, Edges.INTS, 70000, -70000);
        x.does("look", 1).does("days", 2).does("reading", 0, 1, 8).does("reading", 2, 0, 17);
        return x.does("tell", 2).does("sign", 1);
    }

    /** A SHEET gets these numbers. */
    Run row(int sheet, int lane, int... numbers) {
        does("sheet", sheet, lane, numbers.length);
        for (int i = 0; i < numbers.length; i++) {
            does("put", sheet, i, numbers[i]);
        }
        return this;
    }

    Run text(int sheet, int lane, String text) {
        return row(sheet, lane, text.chars().toArray());
    }

    /** A call whose answer is not what the test is of. */
    Run does(String name, int... numbers) {
        Call call = new Call(name, numbers.clone());
        call(call);
        made.add(call);
        return this;
    }

    /** A call that may change something: its answer, and what fault() tells behind it. */
    Run due(long want, String name, int... numbers) {
        Call call = new Call(name, numbers.clone());
        for (Call prior : List.of(TO_NO_FAULT, TO_SIZE)) {
            Run again = again();
            again.call(prior);
            Edges.due(call.toString(), again.call(call), want);
            again.faultIs(call, faultWithout(name, prior));
        }
        call(call);
        made.add(call);
        return this;
    }

    /** A call that changes nothing. */
    Run asks(long want, String name, int... numbers) {
        keepsAll(want, -1, name, numbers);
        return this;
    }

    /** As asks: told apart for the reader. */
    Run refuses(long want, String name, int... numbers) {
        keepsAll(want, -1, name, numbers);
        return this;
    }

    Run faults(int fault, String name, int... numbers) {
        long want = METHODS.get(name).getReturnType() == long.class ? Edges.LOST : -10 - fault;
        keepsAll(want, fault, name, numbers);
        return this;
    }

    /** What fault() tells as all is now, and that it stays. */
    Run tellsFault(int want) {
        Run again = again();
        Edges.due("fault()", again.call("fault"), want);
        Edges.due("fault() once more", again.call("fault"), want);
        return this;
    }

    /** One number of the call is least .. greatest: the next ones, and the least and greatest int, are refused. */
    Run refusesAround(long want, int least, int greatest, int place, String name, int... numbers) {
        for (int outside : around(least, greatest)) {
            refuses(want, name, with(numbers, place, outside));
        }
        return takesEnds(want, least, greatest, place, name, numbers);
    }

    Run faultsAround(int fault, int least, int greatest, int place, String name, int... numbers) {
        for (int outside : around(least, greatest)) {
            faults(fault, name, with(numbers, place, outside));
        }
        long want = METHODS.get(name).getReturnType() == long.class ? Edges.LOST : -10 - fault;
        return takesEnds(want, least, greatest, place, name, numbers);
    }

    private static int[] around(int least, int greatest) {
        return new int[] {least - 1, greatest + 1, Edges.MIN, Edges.MAX};
    }

    private static int[] with(int[] numbers, int place, int v) {
        int[] others = numbers.clone();
        others[place] = v;
        return others;
    }

    private Run takesEnds(long unwanted, int least, int greatest, int place, String name, int... numbers) {
        for (int inside : new int[] {least, greatest}) {
            Call call = new Call(name, with(numbers, place, inside));
            long got = again().call(call);
            Edges.due(call.toString(), got != unwanted, got + ", though it is inside");
        }
        return this;
    }

    private void keepsAll(long want, int fault, String name, int... numbers) {
        Call call = new Call(name, numbers.clone());
        List<Long> before = again().howAllStands();
        for (Call prior : List.of(TO_NO_FAULT, TO_SIZE)) {
            Run again = again();
            again.call(prior);
            Edges.due(call.toString(), again.call(call), want);
            again.faultIs(call, fault >= 0 ? fault : faultWithout(name, prior));
            Edges.due(call + " once more", again.call(call), want);
            List<Long> behind = again.howAllStands();
            Edges.due(call.toString(), behind.equals(before), want + " and changed " + before + " to " + behind);
        }
    }

    private static int faultWithout(String name, Call prior) {
        return prior == TO_SIZE && !NAMING_FAULTS.contains(name) ? Edges.SIZE : 0;
    }

    private void faultIs(Call behind, int want) {
        Edges.due("fault() behind " + behind, call("fault"), want);
    }

    private Run again() {
        Run again = new Run();
        for (Call c : made) {
            again.call(c);
        }
        return again;
    }

    /** As howAllStands, with what fault() tells ahead of it. */
    List<Long> howAllStandsWithFault() {
        List<Long> all = new ArrayList<>();
        all.add(call("fault"));
        all.addAll(howAllStands());
        return all;
    }

    /** All that the document's calls tell of an object, but fault(); the object is not used any more. */
    private List<Long> howAllStands() {
        List<Long> all = new ArrayList<>();
        all.add(call("trace"));
        for (int what = 0; what <= 4; what++) {
            all.add(call("many", what));
        }
        for (int k = 0; k < call("many", 0); k++) {
            for (int what = 0; what <= 5; what++) {
                all.add(call("ofBlock", k, what));
            }
        }
        for (int sheet = 0; sheet < 4; sheet++) {
            addRow(all, sheet);
        }
        addReadings(all);
        return all;
    }

    private void addRow(List<Long> all, int sheet) {
        for (int lane = 0; lane <= 2; lane++) {
            long first = call("cell", sheet, 0, lane);
            long fault = call("fault");
            all.add(first);
            all.add(fault);
            for (int i = 1; fault == 0; i++) {
                all.add(call("cell", sheet, i, lane));
                fault = call("fault");
            }
        }
    }

    private void addReadings(List<Long> all) {
        for (long left = call("many", 4); left > 0; left = call("back", 1)) {
            for (int k = 0; k < call("many", 0); k++) {
                all.add(call("starts", k));
            }
        }
    }

    private long call(String name, int... numbers) {
        return call(new Call(name, numbers));
    }

    private long call(Call call) {
        calls++;
        if (calls > MOST_CALLS) {
            throw new IllegalStateException("what call " + calls + " answers is free");
        }
        Object[] boxed = Arrays.stream(call.numbers).boxed().toArray();
        try {
            return ((Number) METHODS.get(call.name).invoke(object, boxed)).longValue();
        } catch (InvocationTargetException e) {
            throw new IllegalStateException(call + " threw " + e.getCause(), e);
        } catch (IllegalAccessException e) {
            throw new IllegalStateException(e);
        }
    }
}
