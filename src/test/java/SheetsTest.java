/** Promises 24 to 34: SHEETS, TELLING, what can be asked of all. */
public final class SheetsTest {
    private static final Checks C = new Checks();
    private static final long LOST = MarbleGarden.LOST;

    public static void main(String[] args) {
        sheet();
        lose();
        putAndCell();
        cellRefused();
        copy();
        copyRefused();
        tellAndSign();
        as();
        faultIsTheLatest();
        many();
        C.finish();
    }

    private static void sheet() {
        MarbleGarden x = new MarbleGarden();
        C.dueWithFault(x, "sheet(0, 0, -1)", x.sheet(0, 0, -1), Checks.SIZE, 4);
        C.dueWithFault(x, "sheet(-1, 3, -1)", x.sheet(-1, 3, -1), -1, 0);
        C.dueWithFault(x, "sheet(0, 0, MIN)", x.sheet(0, 0, Integer.MIN_VALUE), Checks.SIZE, 4);
        C.dueWithFault(x, "sheet(4, 0, 1)", x.sheet(4, 0, 1), -1, 0);
        C.dueWithFault(x, "cell of nothing still", x.cell(0, 0, 0), LOST, 1);
        C.dueWithFault(x, "sheet(0, 3, -1)", x.sheet(0, 3, -1), -2, 0);
        C.dueWithFault(x, "sheet(0, -1, 1)", x.sheet(0, -1, 1), -2, 0);
        C.dueWithFault(x, "sheet(0, 0, 61)", x.sheet(0, 0, 61), -2, 0);
        C.dueWithFault(x, "sheet(0, 0, 60)", x.sheet(0, 0, 60), 1, 0);
        C.dueWithFault(x, "its last cell", x.cell(0, 59, 0), 0, 0);
        C.dueWithFault(x, "put(0, 59, 7)", x.put(0, 59, 7), 1, 0);
        C.dueWithFault(x, "refused: sheet(0, 0, 61)", x.sheet(0, 0, 61), -2, 0);
        C.dueWithFault(x, "it has its row yet", x.cell(0, 59, 0), 7, 0);
        C.dueWithFault(x, "sheet(0, 1, 60): a new row", x.sheet(0, 1, 60), 1, 0);
        C.dueWithFault(x, "0 at first", x.cell(0, 59, 1), 0, 0);
        C.dueWithFault(x, "sheet(3, 2, 0): a row of none", x.sheet(3, 2, 0), 1, 0);
        C.dueWithFault(x, "cell(3, 0, 2)", x.cell(3, 0, 2), LOST, 3);
        x.put(0, 9, 5);
        x.sheet(0, 1, 3);
        x.sheet(0, 1, 60);
        C.due("0 at first, behind a shorter one", x.cell(0, 9, 1), 0);
    }

    private static void lose() {
        MarbleGarden x = new MarbleGarden();
        x.sheet(1, 2, -1);
        C.due("lose(-1)", x.lose(-1), -1);
        C.due("lose(4)", x.lose(4), -1);
        C.due("lose(1)", x.lose(1), 0);
        C.due("fault(): lose names none", x.fault(), 4);
        x.sheet(1, 2, 0);
        C.due("lose(1) of a row of none", x.lose(1), 1);
        C.due("lose(1) again", x.lose(1), 0);
        C.dueWithFault(x, "cell(1, 0, 0)", x.cell(1, 0, 0), LOST, 1);
        x.sheet(1, 2, 3);
        x.put(1, 2, 9);
        x.lose(1);
        x.sheet(1, 2, 3);
        C.due("cell(1, 2, 2), anew", x.cell(1, 2, 2), 0);
    }

    private static void putAndCell() {
        MarbleGarden x = new MarbleGarden();
        int[] values = {0, 127, 128, 255, 256, -129, 32767, 32768, 65536, -32769, Integer.MAX_VALUE, Integer.MIN_VALUE};
        for (int lane = 0; lane < 3; lane++) {
            x.sheet(lane, lane, 2);
            for (int v : values) {
                C.dueWithFault(x, "put(" + lane + ", 1, " + v + ")", x.put(lane, 1, v), 1, 0);
                long want = lane == 0 ? (byte) v : lane == 1 ? (short) v : v;
                C.dueWithFault(x, "cell(" + lane + ", 1, " + lane + ")", x.cell(lane, 1, lane), want, 0);
            }
            C.due("the other cell", x.cell(lane, 0, lane), 0);
            C.dueWithFault(x, "put at 2", x.put(lane, 2, 1), Checks.INDEX, 3);
            C.dueWithFault(x, "put of no SHEET", x.put(4, 0, 1), -1, 0);
            C.dueWithFault(x, "put at -1", x.put(lane, -1, 1), Checks.INDEX, 3);
        }
        C.dueWithFault(x, "put of nothing", x.put(3, -1, 1), Checks.NULL, 1);
        C.dueWithFault(x, "put of SHEET -1", x.put(-1, 0, 1), -1, 0);
    }

    private static void cellRefused() {
        MarbleGarden x = new MarbleGarden();
        x.sheet(1, 1, 2);
        C.dueWithFault(x, "CAST goes ahead of INDEX", x.cell(1, 9, 0), LOST, 2);
        C.dueWithFault(x, "SHEET 4", x.cell(4, 0, 1), LOST, 0);
        C.dueWithFault(x, "CAST", x.cell(1, 0, 2), LOST, 2);
        C.dueWithFault(x, "lane 3", x.cell(1, 0, 3), LOST, 0);
        C.dueWithFault(x, "INDEX 2", x.cell(1, 2, 1), LOST, 3);
        C.dueWithFault(x, "lane -1", x.cell(1, 0, -1), LOST, 0);
        C.dueWithFault(x, "INDEX -1", x.cell(1, -1, 1), LOST, 3);
        C.dueWithFault(x, "SHEET -1", x.cell(-1, 0, 1), LOST, 0);
        C.dueWithFault(x, "nothing is no CAST", x.cell(0, -1, 2), LOST, 1);
        C.dueWithFault(x, "a cell", x.cell(1, 1, 1), 0, 0);
    }

    private static void rowIs(MarbleGarden x, int sheet, int lane, int... want) {
        for (int i = 0; i < want.length; i++) {
            C.due("cell(" + sheet + ", " + i + ", " + lane + ")", x.cell(sheet, i, lane), want[i]);
        }
    }

    private static void copy() {
        MarbleGarden x = new MarbleGarden();
        Checks.fill(x, 0, Checks.SHORTS, 1, 2, 3, 4, 5);
        Checks.fill(x, 1, Checks.SHORTS, 6, 7, 8);
        C.dueWithFault(x, "copy(0, 3, 1, 1, 2)", x.copy(0, 3, 1, 1, 2), 2, 0);
        rowIs(x, 1, 1, 6, 4, 5);
        C.dueWithFault(x, "copy up within", x.copy(0, 0, 0, 1, 4), 4, 0);
        rowIs(x, 0, 1, 1, 1, 2, 3, 4);
        C.dueWithFault(x, "copy down within", x.copy(0, 1, 0, 0, 4), 4, 0);
        rowIs(x, 0, 1, 1, 2, 3, 4, 4);
        C.dueWithFault(x, "copy none, at both ends", x.copy(0, 5, 1, 3, 0), 0, 0);
        rowIs(x, 1, 1, 6, 4, 5);
    }

    private static void copyRefused() {
        MarbleGarden x = new MarbleGarden();
        Checks.fill(x, 0, Checks.SHORTS, 1, 2, 3, 4, 5);
        Checks.fill(x, 1, Checks.SHORTS, 6, 7, 8);
        Checks.fill(x, 2, Checks.INTS, 9, 9, 9);
        C.dueWithFault(x, "first nothing", x.copy(3, -1, 0, 0, 1), Checks.NULL, 1);
        C.dueWithFault(x, "no first SHEET", x.copy(4, 0, 3, 0, 1), -1, 0);
        C.dueWithFault(x, "other nothing", x.copy(0, 0, 3, 0, 1), Checks.NULL, 1);
        C.dueWithFault(x, "no other SHEET", x.copy(3, 0, -1, 0, 1), -1, 0);
        C.dueWithFault(x, "both nothing", x.copy(3, 0, 3, 0, 0), Checks.NULL, 1);
        C.dueWithFault(x, "CAST goes ahead of INDEX", x.copy(0, 0, 2, 0, -1), Checks.CAST, 2);
        int[][] beyond = {{-1, 0, 1}, {0, -1, 1}, {0, 0, -1}, {0, 0, 4}, {3, 0, 3}, {0, 1, 3}, {6, 0, 0}, {0, 4, 0},
            {-1, 0, 0}, {0, -1, 0}, {2, 0, Integer.MAX_VALUE}, {Integer.MAX_VALUE, 0, 1}, {0, Integer.MIN_VALUE, 1}};
        for (int[] b : beyond) {
            C.dueWithFault(x, "copy beyond " + java.util.Arrays.toString(b), x.copy(0, b[0], 1, b[1], b[2]),
                Checks.INDEX, 3);
        }
        rowIs(x, 0, 1, 1, 2, 3, 4, 5);
        rowIs(x, 1, 1, 6, 7, 8);
        rowIs(x, 2, 2, 9, 9, 9);
    }

    private static int traceBy(int trace, int... bodies) {
        int now = trace;
        for (int body : bodies) {
            now = 31 * now + body;
        }
        return now;
    }

    private static void tellAndSign() {
        MarbleGarden x = Checks.gardenOf("g000;b003;n002;h004;n001");
        x.sheet(0, 0, -1);
        int trace = 0;
        for (int turn = 0; turn < 3; turn++) {
            C.due("tell(0)", x.tell(0), 3);
            trace = traceBy(trace, 1);
            C.due("trace()", x.trace(), trace);
            C.due("tell(1)", x.tell(1), 102);
            trace = traceBy(trace, 2, 1);
            C.due("trace()", x.trace(), trace);
            C.due("tell(2)", x.tell(2), 108);
            trace = traceBy(trace, 3, 2, 1, 1);
            C.due("trace(), which wraps", x.trace(), trace);
            C.due("sign(0)", x.sign(0), 0);
            trace = traceBy(trace, 4);
            C.due("trace()", x.trace(), trace);
            C.due("sign(3)", x.sign(3), 3);
            trace = traceBy(trace, 4);
            C.due("sign(2)", x.sign(2), 40);
            trace = traceBy(trace, 5);
            C.due("trace()", x.trace(), trace);
        }
        for (int k : new int[] {-1, 4, 6}) {
            C.due("tell(" + k + ")", x.tell(k), -1);
            C.due("sign(" + k + ")", x.sign(k), -1);
        }
        C.due("trace()", x.trace(), trace);
        C.due("fault(): they name none", x.fault(), 4);
        x.hurry(2, 1);
        C.due("tell(2) of another PACE", x.tell(2), 102);
    }

    private static void as() {
        MarbleGarden x = Checks.gardenOf("g000;b001;n001;h001");
        for (int k = 0; k < 3; k++) {
            for (int kind = 0; kind < 3; kind++) {
                boolean is = kind <= k;
                C.dueWithFault(x, "as(" + k + ", " + kind + ")", x.as(k, kind), is ? 1 : Checks.CAST, is ? 0 : 2);
            }
        }
        x.as(0, 1);
        C.dueWithFault(x, "as(0, 3)", x.as(0, 3), -2, 0);
        x.as(0, 1);
        C.dueWithFault(x, "as(3, 0)", x.as(3, 0), -1, 0);
        x.as(0, 1);
        C.dueWithFault(x, "as(-1, -1)", x.as(-1, -1), -1, 0);
        C.dueWithFault(x, "as(2, -1)", x.as(2, -1), -2, 0);
        C.due("trace()", x.trace(), 0);
    }

    /** Calls that name no FAULT leave what fault() tells, even if they are refused. */
    private static void faultIsTheLatest() {
        MarbleGarden x = Checks.gardenOf("g000;b001;n001");
        x.as(0, 2);
        long sum = x.ofBlock(0, 0) + x.ofBlock(9, 0) + x.becomes(0) + x.becomes(99) + x.enact(3) + x.enact(999);
        sum += x.hurry(0, 1) + x.hurry(9, 1) + x.days(1) + x.days(0) + x.look(0) + x.look(9) + x.away(0) + x.away(9);
        sum += x.stroke(0, 0) + x.stroke(9, 0) + x.comes(0, 0) + x.comes(9, 0) + x.strokes(0, 0) + x.strokes(9, 0);
        sum += x.round(0, 0) + x.round(0, 9) + x.eden(0) + x.eden(99) + x.alike(0, 1) + x.alike(0, 0);
        sum += x.reading(0, 0, 0) + x.reading(9, 0, 0) + x.back(0) + x.back(9) + x.paces(0) + x.paces(9);
        sum += x.kinds(0) + x.kinds(9) + x.starts(0) + x.starts(9) + x.odds(0, 0, 0, 0) + x.odds(9, 0, 0, 0);
        sum += x.lose(0) + x.lose(9) + x.tell(0) + x.tell(9) + x.sign(0) + x.sign(9) + x.trace() + x.many(0) + x.many(9);
        C.due("fault() behind calls that name none (" + sum + ")", x.fault(), 2);
        C.due("fault() again", x.fault(), 2);
    }

    private static void many() {
        MarbleGarden x = Checks.gardenOf("g110;b001;n001;h001");
        x.days(12);
        x.look(0);
        x.look(2);
        x.reading(0, 0, 0);
        int[] want = {3, 110, 12, 2, 1};
        for (int what = 0; what < 5; what++) {
            C.due("many(" + what + ")", x.many(what), want[what]);
        }
        C.due("many(-1)", x.many(-1), -2);
        C.due("many(5)", x.many(5), -2);
    }
}
