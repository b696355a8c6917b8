import java.util.ArrayList;
import java.util.List;
import java.util.regex.Pattern;

/**
 * The document once more, written for the tests as literally and slowly as can be: rows are real arrays whose
 * FAULTS the machine throws, cells are booleans, LAWS are tried one by one.
 */
final class PlainGarden {
    static final long LOST = Long.MIN_VALUE;
    private static final Pattern TEXT = Pattern.compile("g(([01][0-9]|2[0-4])[0-9]|25[0-5])(;[bnh][0-7][0-7][1-4]){1,6}");

    static final class Block {
        int kind;
        boolean[] cells = new boolean[6];
        int pace;
        boolean looked;

        Block twin() {
            Block b = new Block();
            b.kind = kind;
            b.cells = cells.clone();
            b.pace = pace;
            b.looked = looked;
            return b;
        }

        int goes() {
            return kind == 0 ? pace : kind == 1 ? pace + 1 : pace * 2;
        }
    }

    private List<Block> blocks = new ArrayList<>();
    private int law;
    private int day;
    private final List<int[]> readings = new ArrayList<>();
    private final Object[] sheets = new Object[4];
    private int trace;
    private int fault;

    /** What a call answers, by its name; all numbers of the call in one row. */
    long call(String name, int[] a) {
        boolean names = List.of("garden", "years", "laws", "sheet", "put", "cell", "copy", "as").contains(name);
        int was = fault;
        fault = 0;
        try {
            long answer = answer(name, a);
            if (!names) {
                fault = was;
            }
            return name.equals("fault") ? was : answer;
        } catch (ClassCastException | ArrayStoreException e) {
            fault = 2;
        } catch (NullPointerException e) {
            fault = 1;
        } catch (NegativeArraySizeException e) {
            fault = 4;
        } catch (IndexOutOfBoundsException e) {
            fault = 3;
        }
        if (!names) {
            throw new IllegalStateException(name);
        }
        return name.equals("cell") ? LOST : -10 - fault;
    }

    private long answer(String name, int[] a) {
        switch (name) {
            case "garden": return garden(a[0], a[1], a[2], a[3]);
            case "ofBlock": return !has(a[0]) ? -1 : out(a[1], 0, 5) ? -2 : ofBlock(blocks.get(a[0]), a[1]);
            case "becomes": return out(a[0], 0, 63) ? -2 : blocks.isEmpty() ? -3 : number(step(law, cells(a[0])));
            case "enact": return out(a[0], 0, 255) ? -2 : blocks.isEmpty() ? -3 : enact(a[0]);
            case "hurry": return !has(a[0]) ? -1 : out(a[1], 1, 4) ? -2 : hurry(blocks.get(a[0]), a[1]);
            case "days": return out(a[0], 1, 300) ? -2 : blocks.isEmpty() ? -3 : days(a[0]);
            case "look": return !has(a[0]) ? -1 : look(blocks.get(a[0]));
            case "away": return !has(a[0]) ? -1 : away(blocks.get(a[0]));
            case "stroke": return !has(a[0]) ? -1 : out(a[1], 0, 5) ? -2 : stroke(blocks.get(a[0]), a[1]);
            case "years": return years(a);
            case "comes": return !has(a[0]) ? -1 : out(a[1], 0, 63) ? -2 : comes(blocks.get(a[0]).twin(), a[1]);
            case "strokes": return !has(a[0]) ? -1 : out(a[1], 0, 63) ? -2 : strokes(blocks.get(a[0]), a[1]);
            case "round": return out(a[0], 0, 63) || out(a[1], 0, 1) ? -2 : blocks.isEmpty() ? -3 : round(a[0], a[1]);
            case "eden": return out(a[0], 0, 63) || blocks.isEmpty() ? LOST : eden(a[0]);
            case "alike": return !has(a[0]) || !has(a[1]) || a[0] == a[1] ? -1 : alike(a[0], a[1]);
            case "laws": return laws(a);
            default: return answerOfTheRest(name, a);
        }
    }

    private long answerOfTheRest(String name, int[] a) {
        switch (name) {
            case "reading": return reading(a);
            case "back": return out(a[0], 0, readings.size()) ? -2 : back(a[0]);
            case "paces": return !has(a[0]) ? -1 : fitting(a[0], 1, 4, 'p');
            case "kinds": return !has(a[0]) ? -1 : fitting(a[0], 0, 2, 'k');
            case "starts": return !has(a[0]) ? 0 : fitting(a[0], 0, 63, 's');
            case "odds": return odds(a);
            case "sheet": return sheet(a[0], a[1], a[2]);
            case "lose": return out(a[0], 0, 3) ? -1 : lose(a[0]);
            case "put": return out(a[0], 0, 3) ? -1 : put(sheets[a[0]], a[1], a[2]);
            case "cell": return out(a[0], 0, 3) || out(a[2], 0, 2) ? LOST : taken(a[0], a[2], a[1], 1)[0];
            case "copy": return copy(a);
            case "tell": return !has(a[0]) ? -1 : tell(blocks.get(a[0]));
            case "sign": return !has(a[0]) ? -1 : sign(a[0]);
            case "as": return as(a[0], a[1]);
            case "trace": return trace;
            case "fault": return fault;
            case "many": return many(a[0]);
            default: throw new IllegalStateException(name);
        }
    }

    private static boolean out(int v, int least, int greatest) {
        return v < least || v > greatest;
    }

    private boolean has(int k) {
        return !out(k, 0, blocks.size() - 1);
    }

    static boolean[] cells(int shape) {
        boolean[] cells = new boolean[6];
        for (int k = 0; k < 6; k++) {
            cells[k] = (shape & (int) Math.pow(2, k)) != 0;
        }
        return cells;
    }

    static int number(boolean[] cells) {
        int sum = 0;
        for (int k = 0; k < 6; k++) {
            sum += cells[k] ? (int) Math.pow(2, k) : 0;
        }
        return sum;
    }

    private static boolean[] step(int law, boolean[] cells) {
        boolean[] next = new boolean[6];
        for (int k = 0; k < 6; k++) {
            boolean above = cells[k == 5 ? 0 : k + 1];
            boolean below = cells[k == 0 ? 5 : k - 1];
            int bit = (above ? 4 : 0) + (cells[k] ? 2 : 0) + (below ? 1 : 0);
            next[k] = Integer.toBinaryString(256 + law).charAt(8 - bit) == '1';
        }
        return next;
    }

    private void goDays(Block b, int days) {
        for (int s = 0; s < days * b.goes(); s++) {
            b.cells = step(law, b.cells);
        }
    }

    private static int set(Block b) {
        return Integer.bitCount(number(b.cells));
    }

    /** The machine casts first, then finds nothing, then makes the row, then copies to it. */
    private int[] taken(int k, int lane, int i, int n) {
        Object row = lane == 0 ? (byte[]) sheets[k] : lane == 1 ? (short[]) sheets[k] : (int[]) sheets[k];
        row.hashCode();
        Object part = lane == 0 ? new byte[n] : lane == 1 ? new short[n] : new int[n];
        System.arraycopy(row, i, part, 0, n);
        int[] numbers = new int[n];
        for (int p = 0; p < n; p++) {
            numbers[p] = java.lang.reflect.Array.getInt(part, p);
        }
        return numbers;
    }

    private long garden(int k, int lane, int i, int n) {
        if (out(k, 0, 3)) {
            return -1;
        }
        if (out(lane, 0, 2)) {
            return -2;
        }
        if (n > 60 && sheets[k] != null && rowLane(sheets[k]) == lane) {
            throw new IndexOutOfBoundsException();
        }
        StringBuilder text = new StringBuilder();
        for (int code : taken(k, lane, i, n)) {
            text.append(code < 0 || code > 65535 ? '?' : (char) code);
        }
        if (!TEXT.matcher(text).matches()) {
            return -100 - firstFault(text.toString());
        }
        law = Integer.parseInt(text.substring(1, 4));
        day = 0;
        readings.clear();
        blocks = new ArrayList<>();
        for (String part : text.substring(5).split(";")) {
            Block b = new Block();
            b.kind = "bnh".indexOf(part.charAt(0));
            b.cells = cells(Integer.parseInt(part.substring(1, 3), 8));
            b.pace = part.charAt(3) - '0';
            blocks.add(b);
        }
        return blocks.size();
    }

    /** The longest beginning of some TEXT: what the pattern could yet match. */
    private static int firstFault(String text) {
        for (int p = 1; p <= text.length(); p++) {
            var m = TEXT.matcher(text.substring(0, p));
            if (!m.matches() && !m.hitEnd()) {
                return p - 1;
            }
        }
        return text.length();
    }

    private static int rowLane(Object row) {
        return row instanceof byte[] ? 0 : row instanceof short[] ? 1 : 2;
    }

    private static long ofBlock(Block b, int what) {
        return new long[] {b.kind, number(b.cells), b.pace, b.goes(), b.looked ? 1 : 0, set(b)}[what];
    }

    private long enact(int v) {
        int was = law;
        law = v;
        return was;
    }

    private static long hurry(Block b, int v) {
        int was = b.pace;
        b.pace = v;
        return was;
    }

    private long days(int n) {
        long others = 0;
        for (Block b : blocks) {
            int was = number(b.cells);
            if (!b.looked) {
                goDays(b, n);
            }
            others += number(b.cells) == was ? 0 : 1;
        }
        day += n;
        return others;
    }

    private static long look(Block b) {
        if (b.looked) {
            return -3;
        }
        b.looked = true;
        return number(b.cells);
    }

    private long away(Block b) {
        if (!b.looked) {
            return -3;
        }
        b.looked = false;
        return blocks.stream().filter(o -> o.looked).count();
    }

    private static long stroke(Block b, int cell) {
        b.cells[cell] = !b.cells[cell];
        return number(b.cells);
    }

    private long years(int[] a) {
        int n = a[3];
        int what = a[4];
        if (out(a[0], 0, 3)) {
            return -1;
        }
        if (out(a[1], 0, 2) || out(n, 0, 20) || out(what, 0, 4) && out(what, 10, 15)) {
            return -2;
        }
        int[] row = taken(a[0], a[1], a[2], 2 * n);
        if (blocks.isEmpty()) {
            return -3;
        }
        for (int p = 0; p < n; p++) {
            int first = row[2 * p];
            int act = row[2 * p + 1];
            if (out(act, 0, 2) && out(act, 10, 15) || act == 0 && out(first, 0, 99)) {
                return -2;
            }
            if (act != 0 && !has(first)) {
                return -1;
            }
        }
        List<Block> now = blocks;
        int today = day;
        blocks = new ArrayList<>();
        for (Block b : now) {
            blocks.add(b.twin());
        }
        long answer = lived(row, n, what, today);
        blocks = now;
        day = today;
        return answer;
    }

    private long lived(int[] row, int n, int what, int today) {
        long same = 0;
        for (int p = 0; p < n; p++) {
            int first = row[2 * p];
            int act = row[2 * p + 1];
            if (act == 0) {
                for (int d = 0; d < first; d++) {
                    days(1);
                    same += blocks.stream().map(b -> number(b.cells)).distinct().count() < blocks.size() ? 1 : 0;
                }
                continue;
            }
            Block b = blocks.get(first);
            long done = act == 1 ? look(b) : act == 2 ? away(b) : stroke(b, act - 10);
            if (done < 0) {
                return what == 1 ? p : -100 - p;
            }
        }
        switch (what) {
            case 0: return asSet();
            case 1: return -9;
            case 2: return blocks.stream().mapToInt(PlainGarden::set).sum();
            case 3: return day - today;
            case 4: return same;
            default: return has(what - 10) ? number(blocks.get(what - 10).cells) : -9;
        }
    }

    private long asSet() {
        long sum = 0;
        for (int k = 0; k < blocks.size(); k++) {
            sum += blocks.get(k).looked ? Math.pow(2, k) : 0;
        }
        return sum;
    }

    private long comes(Block b, int v) {
        for (int d = 0; d <= 63; d++) {
            if (number(b.cells) == v) {
                return d;
            }
            goDays(b, 1);
        }
        return -9;
    }

    private long strokes(Block b, int v) {
        for (int size = 0; size <= 6; size++) {
            for (int set = 0; set < 64; set++) {
                Block other = b.twin();
                other.cells = cells(number(b.cells) ^ set);
                if (Integer.bitCount(set) == size && comes(other, v) >= 0) {
                    return set;
                }
            }
        }
        return -9;
    }

    private long round(int shape, int what) {
        List<Integer> seen = new ArrayList<>();
        int now = shape;
        while (!seen.contains(now)) {
            seen.add(now);
            now = number(step(law, cells(now)));
        }
        int lead = seen.indexOf(now);
        return what == 0 ? lead : seen.size() - lead;
    }

    private long eden(int v) {
        long set = 0;
        for (int shape = 63; shape >= 0; shape--) {
            set = set * 2 + (number(step(law, cells(shape))) == v ? 1 : 0);
        }
        return set;
    }

    private long alike(int a, int b) {
        Block one = blocks.get(a).twin();
        Block other = blocks.get(b).twin();
        for (int d = 0; d <= 99; d++) {
            if (number(one.cells) == number(other.cells)) {
                return d;
            }
            goDays(one, 1);
            goDays(other, 1);
        }
        return -9;
    }

    private long laws(int[] a) {
        if (out(a[0], 0, 3)) {
            return -1;
        }
        if (out(a[1], 0, 2) || out(a[3], 0, 20) || out(a[4], 0, 2)) {
            return -2;
        }
        int[] row = taken(a[0], a[1], a[2], a[3]);
        List<Integer> fit = new ArrayList<>();
        for (int shape : row) {
            if (out(shape, 0, 63)) {
                return -2;
            }
        }
        for (int l = 0; l < 256; l++) {
            boolean all = true;
            for (int p = 1; p < row.length; p++) {
                all &= number(step(l, cells(row[p - 1]))) == row[p];
            }
            if (all) {
                fit.add(l);
            }
        }
        if (a[4] == 0) {
            return fit.size();
        }
        return fit.isEmpty() ? -9 : a[4] == 1 ? fit.get(0) : fit.get(fit.size() - 1);
    }

    private long reading(int[] a) {
        if (!has(a[0])) {
            return -1;
        }
        if (out(a[1], 0, 99) || out(a[2], 0, 63)) {
            return -2;
        }
        if (readings.size() == 8) {
            return -4;
        }
        readings.add(a.clone());
        return readings.size() - 1;
    }

    private long back(int n) {
        for (int r = 0; r < n; r++) {
            readings.remove(readings.size() - 1);
        }
        return readings.size();
    }

    private long fitting(int k, int least, int greatest, char of) {
        Block was = blocks.get(k);
        long set = 0;
        for (int v = least; v <= greatest; v++) {
            Block b = was.twin();
            b.pace = of == 'p' ? v : b.pace;
            b.kind = of == 'k' ? v : b.kind;
            b.cells = of == 's' ? cells(v) : b.cells;
            blocks.set(k, b);
            set |= allAreSo() ? 1L << v : 0;
        }
        blocks.set(k, was);
        return set;
    }

    private boolean allAreSo() {
        for (int[] r : readings) {
            Block b = blocks.get(r[0]).twin();
            goDays(b, r[1]);
            if (number(b.cells) != r[2]) {
                return false;
            }
        }
        return true;
    }

    private long odds(int[] a) {
        if (!has(a[0]) || out(a[1], 0, 99) || out(a[2], 0, 63) || out(a[3], 0, 1)) {
            return LOST;
        }
        int many = 0;
        for (int shape = 0; shape < 64; shape++) {
            Block b = blocks.get(a[0]).twin();
            b.cells = cells(shape);
            goDays(b, a[1]);
            many += number(b.cells) == a[2] ? 1 : 0;
        }
        int common = java.math.BigInteger.valueOf(many).gcd(java.math.BigInteger.valueOf(64)).intValue();
        return (a[3] == 0 ? many : 64) / common;
    }

    private long sheet(int k, int lane, int n) {
        if (out(k, 0, 3)) {
            return -1;
        }
        if (out(lane, 0, 2) || n > 60) {
            return -2;
        }
        sheets[k] = lane == 0 ? new byte[n] : lane == 1 ? new short[n] : new int[n];
        return 1;
    }

    private long lose(int k) {
        long had = sheets[k] == null ? 0 : 1;
        sheets[k] = null;
        return had;
    }

    private static long put(Object row, int i, int v) {
        if (row instanceof byte[] bytes) {
            bytes[i] = (byte) v;
        } else if (row instanceof short[] shorts) {
            shorts[i] = (short) v;
        } else {
            ((int[]) row)[i] = v;
        }
        return 1;
    }

    private long copy(int[] a) {
        if (out(a[0], 0, 3) || out(a[2], 0, 3)) {
            return -1;
        }
        System.arraycopy(sheets[a[0]], a[1], sheets[a[2]], a[3], a[4]);
        return a[4];
    }

    private int leave(int body) {
        trace = (int) ((31L * trace + body) & 0xffffffffL);
        return body;
    }

    private long tell(Block b) {
        int kind = leave(b.kind + 1);
        if (kind == 1) {
            return b.pace;
        }
        Block below = b.twin();
        below.kind = kind - 2;
        long sum = tell(below);
        if (kind == 2) {
            return sum + 100;
        }
        below.kind = 0;
        return sum + tell(below);
    }

    private long sign(int k) {
        return leave(blocks.get(k).kind == 2 ? 5 : 4) == 5 ? 40 : k;
    }

    private long as(int k, int kind) {
        if (!has(k)) {
            return -1;
        }
        if (out(kind, 0, 2)) {
            return -2;
        }
        String is = List.of("0", "01", "012").get(blocks.get(k).kind);
        if (!is.contains(String.valueOf(kind))) {
            throw new ClassCastException();
        }
        return 1;
    }

    private long many(int what) {
        return out(what, 0, 4) ? -2 : new long[] {blocks.size(), law, day,
            blocks.stream().filter(b -> b.looked).count(), readings.size()}[what];
    }
}
