import java.math.BigInteger;
import java.util.List;
import java.util.function.Consumer;

/** Runs of all the 512 calls for which an object is used: the last one is answered as the first. */
public final class LongRunsTest {
    private static final Checks C = new Checks();
    private static final int MOST_CALLS = 512;

    private final MarbleGarden x = new MarbleGarden();
    private int calls;

    public static void main(String[] args) {
        List<Consumer<LongRunsTest>> runs = List.of(
            LongRunsTest::refusedOnANewOne, LongRunsTest::gardens, LongRunsTest::laws, LongRunsTest::paces,
            LongRunsTest::days, LongRunsTest::looks, LongRunsTest::strokes, LongRunsTest::years,
            LongRunsTest::whatItWillBe, LongRunsTest::lawsByShapes, LongRunsTest::readings, LongRunsTest::whatItWas,
            LongRunsTest::rows, LongRunsTest::copies, LongRunsTest::tellings, LongRunsTest::casts);
        for (Consumer<LongRunsTest> run : runs) {
            LongRunsTest test = new LongRunsTest();
            run.accept(test);
            C.due("calls of a run", test.calls, MOST_CALLS);
        }
        C.finish();
    }

    private void due(String call, long got, long want) {
        calls++;
        C.due(call + ", call " + calls, got, want);
    }

    /** Whether a turn of so many calls can yet be made. */
    private boolean hasRoomFor(int more) {
        return calls + more <= MOST_CALLS;
    }

    private void fill(int sheet, int lane, int... numbers) {
        Checks.fill(x, sheet, lane, numbers);
        calls += 1 + numbers.length;
    }

    private void begin(String text) {
        fill(0, Checks.BYTES, text.chars().toArray());
        int blocks = (text.length() - 4) / 5;
        due("garden", x.garden(0, Checks.BYTES, 0, text.length()), blocks);
    }

    private void fillUpBy(int what, long want) {
        while (hasRoomFor(1)) {
            due("many(" + what + ")", x.many(what), want);
        }
    }

    private void refusedOnANewOne() {
        while (hasRoomFor(12)) {
            due("garden", x.garden(0, 0, 0, 9), Checks.NULL);
            due("ofBlock", x.ofBlock(0, 0), -1);
            due("becomes", x.becomes(0), -3);
            due("enact", x.enact(30), -3);
            due("days", x.days(300), -3);
            due("look", x.look(0), -1);
            due("eden", x.eden(0), MarbleGarden.LOST);
            due("reading", x.reading(0, 0, 0), -1);
            due("put", x.put(3, 0, 1), Checks.NULL);
            due("sheet", x.sheet(3, 0, -1), Checks.SIZE);
            due("fault", x.fault(), 4);
            due("trace", x.trace(), 0);
        }
        fillUpBy(0, 0);
    }

    private void gardens() {
        fill(0, Checks.SHORTS, "g170;b011;g204;h774;n771".chars().toArray());
        while (hasRoomFor(12)) {
            due("garden", x.garden(0, 1, 0, 9), 1);
            due("days", x.days(300), 0);
            due("stroke", x.stroke(0, 1), 3);
            due("look", x.look(0), 3);
            due("reading", x.reading(0, 0, 3), 0);
            due("a TEXT with a fault", x.garden(0, 1, 10, 13), -113);
            due("many(2)", x.many(2), 300);
            due("garden", x.garden(0, 1, 10, 14), 2);
            due("many(1)", x.many(1), 204);
            due("many(2)", x.many(2), 0);
            due("many(3)", x.many(3), 0);
            due("many(4)", x.many(4), 0);
        }
        fillUpBy(0, 2);
    }

    private void laws() {
        begin("g255;b011");
        int law = 255;
        while (hasRoomFor(1)) {
            due("enact", x.enact((law + 101) % 256), law);
            law = (law + 101) % 256;
        }
    }

    private void paces() {
        begin("g170;b011;h014");
        int pace = 4;
        while (hasRoomFor(2)) {
            due("hurry", x.hurry(1, pace % 4 + 1), pace);
            pace = pace % 4 + 1;
            due("ofBlock", x.ofBlock(1, 3), 2 * pace);
        }
    }

    private void days() {
        begin("g170;b011;b012");
        int day = 0;
        while (hasRoomFor(4)) {
            due("days(1)", x.days(1), 2);
            due("days(300)", x.days(300), 0);
            day += 301;
            due("ofBlock(0, 1)", x.ofBlock(0, 1), 1 << day % 6);
            due("ofBlock(1, 1)", x.ofBlock(1, 1), 1 << 2 * day % 6);
        }
        fillUpBy(2, day);
    }

    private void looks() {
        begin("g170;b011;b771");
        while (hasRoomFor(6)) {
            due("look(0)", x.look(0), 1);
            due("look(0) again", x.look(0), -3);
            due("look(1)", x.look(1), 63);
            due("away(0)", x.away(0), 1);
            due("away(0) again", x.away(0), -3);
            due("away(1)", x.away(1), 0);
        }
        fillUpBy(3, 0);
    }

    private void strokes() {
        begin("g170;b001");
        int shape = 0;
        for (int turn = 0; hasRoomFor(1); turn++) {
            int cell = turn * 5 % 6;
            boolean set = shape / (1 << cell) % 2 == 1;
            shape += set ? -(1 << cell) : 1 << cell;
            due("stroke(0, " + cell + ")", x.stroke(0, cell), shape);
        }
    }

    private void years() {
        begin("g170;b011;n011");
        fill(1, Checks.INTS, 0, 1, 99, 0, 1, 11, 0, 2, 0, 2);
        while (hasRoomFor(8)) {
            due("years, who is LOOKED at", x.years(1, 2, 0, 3, 0), 1);
            due("years, FIRST WRONG", x.years(1, 2, 0, 5, 1), 4);
            due("years, cells", x.years(1, 2, 0, 4, 2), 2 + 1);
            due("years, DAYS", x.years(1, 2, 0, 4, 3), 99);
            due("years, alike", x.years(1, 2, 0, 4, 4), 33);
            due("years, SHAPE", x.years(1, 2, 0, 4, 11), 3);
            due("years, wrong", x.years(1, 2, 0, 5, 11), -104);
            due("ofBlock(1, 1)", x.ofBlock(1, 1), 1);
        }
        fillUpBy(2, 0);
    }

    private void whatItWillBe() {
        begin("g170;b011;n041");
        while (hasRoomFor(6)) {
            due("comes", x.comes(0, 32), 5);
            due("strokes", x.strokes(0, 3), 2);
            due("round, behind", x.round(1, 0), 0);
            due("round, by", x.round(1, 1), 6);
            due("eden", x.eden(1), 1L << 32);
            due("alike", x.alike(0, 1), 4);
        }
        fillUpBy(2, 0);
    }

    private void lawsByShapes() {
        fill(3, Checks.BYTES, 0, 0, 63, 63, 0, 63);
        while (hasRoomFor(4)) {
            due("laws, none", x.laws(3, 0, 0, 3, 0), 0);
            due("laws, the least of none", x.laws(3, 0, 0, 3, 1), -9);
            due("laws, the least", x.laws(3, 0, 2, 2, 1), 128);
            due("laws, the greatest", x.laws(3, 0, 4, 2, 2), 255);
        }
        fillUpBy(0, 0);
    }

    private void readings() {
        begin("g170;b011");
        while (hasRoomFor(10)) {
            for (int r = 0; r < 8; r++) {
                due("reading", x.reading(0, 99, r), r);
            }
            due("a ninth", x.reading(0, 0, 0), -4);
            due("back", x.back(8), 0);
        }
        fillUpBy(4, 0);
    }

    private void whatItWas() {
        begin("g170;b012");
        while (hasRoomFor(7)) {
            due("reading", x.reading(0, 1, 4), 0);
            due("paces", x.paces(0), 1 << 2);
            due("kinds", x.kinds(0), 1);
            due("starts", x.starts(0), 1L << 1);
            due("odds, upper", x.odds(0, 99, 63, 0), 1);
            due("odds, lower", x.odds(0, 99, 63, 1), 64);
            due("back", x.back(1), 0);
        }
        fillUpBy(4, 0);
    }

    private void rows() {
        for (int turn = 0; hasRoomFor(8); turn++) {
            int k = turn % 4;
            int lane = turn % 3;
            due("lose", x.lose(k), 0);
            due("sheet", x.sheet(k, lane, 60), 1);
            due("cell", x.cell(k, 59, lane), 0);
            due("put", x.put(k, 59, -7), 1);
            due("cell", x.cell(k, 59, lane), -7);
            due("put", x.put(k, 60, 1), Checks.INDEX);
            due("fault", x.fault(), 3);
            due("lose", x.lose(k), 1);
        }
        fillUpBy(0, 0);
    }

    private void copies() {
        fill(0, Checks.INTS, 1, 2, 3, 4, 5);
        // the row moves round by one: five turns bring it back
        int first = 1;
        while (hasRoomFor(4)) {
            long last = x.cell(0, 4, 2);
            due("cell", last, first == 1 ? 5 : first - 1);
            due("copy", x.copy(0, 0, 0, 1, 4), 4);
            due("put", x.put(0, 0, (int) last), 1);
            first = (int) last;
            due("cell", x.cell(0, 1, 2), first % 5 + 1);
        }
        fillUpBy(0, 0);
    }

    private void tellings() {
        begin("g170;b011;n012;h014");
        BigInteger trace = BigInteger.ZERO;
        while (hasRoomFor(4)) {
            due("tell(2)", x.tell(2), 108);
            due("tell(1)", x.tell(1), 102);
            due("sign(2)", x.sign(2), 40);
            for (int body : new int[] {3, 2, 1, 1, 2, 1, 5}) {
                trace = trace.multiply(BigInteger.valueOf(31)).add(BigInteger.valueOf(body));
            }
            // the low 32 bits are what is left of it
            due("trace", x.trace(), trace.intValue());
        }
        fillUpBy(0, 3);
    }

    private void casts() {
        begin("g170;b011;n012;h014");
        while (hasRoomFor(4)) {
            due("as(1, 2)", x.as(1, 2), Checks.CAST);
            due("fault", x.fault(), 2);
            due("as(2, 1)", x.as(2, 1), 1);
            due("fault", x.fault(), 0);
        }
        fillUpBy(0, 3);
    }
}
