import java.util.ArrayList;
import java.util.List;
import java.util.Random;

/** Several objects side by side: none shows what was done to another. */
public final class SideBySideTest {
    private static final Checks C = new Checks();
    private static final int GROUPS = 40, OBJECTS = 6;

    public static void main(String[] args) throws Exception {
        eachCallOnAnother();
        anotherGarden();
        aNewOneBesideABusyOne();
        sameCallsInTurn();
        drawnRunsMixed();
        C.finish();
    }

    /** Each call of the face, with numbers by which it changes something if it can: fault() at least, where it names one. */
    private static void eachCallOnAnother() {
        Object[][] calls = {{"garden", 0, 0, 0, 19}, {"garden", 1, 0, 0, 1}, {"ofBlock", 0, 1}, {"becomes", 1}, {"enact", 30},
            {"hurry", 2, 4}, {"days", 1}, {"look", 0}, {"away", 1}, {"stroke", 0, 0}, {"years", 2, 2, 1, 1, 0},
            {"years", 1, 1, 0, 0, 3}, {"comes", 0, 8}, {"strokes", 0, 3}, {"round", 1, 1}, {"eden", 1}, {"alike", 0, 2},
            {"laws", 2, 1, 0, 1, 0}, {"laws", 1, 1, 0, 1, 0}, {"reading", 1, 0, 63}, {"back", 2}, {"paces", 0}, {"kinds", 2},
            {"starts", 1}, {"odds", 0, 9, 3, 1}, {"sheet", 3, 0, 60}, {"sheet", 1, 1, -1}, {"lose", 1}, {"put", 1, 0, 9},
            {"put", 3, 0, 9}, {"cell", 1, 0, 1}, {"cell", 1, 3, 1}, {"copy", 1, 0, 1, 1, 2}, {"copy", 1, 0, 2, 0, 1},
            {"tell", 2}, {"sign", 0}, {"as", 2, 1}, {"as", 0, 1}, {"trace"}, {"fault"}, {"many", 0}};
        List<Long> want = Run.busy().howAllStandsWithFault();
        for (Object[] call : calls) {
            int[] numbers = new int[call.length - 1];
            for (int p = 0; p < numbers.length; p++) {
                numbers[p] = (int) call[p + 1];
            }
            Run kept = Run.busy();
            Run.busy().does((String) call[0], numbers);
            List<Long> got = kept.howAllStandsWithFault();
            C.due("the one beside that which was called " + call[0] + ", " + want + " once, " + got, got.equals(want) ? 1 : 0, 1);
        }
    }

    private static void anotherGarden() {
        MarbleGarden a = Checks.gardenOf("g170;b011");
        MarbleGarden b = Checks.gardenOf("g204;h774;n771");
        C.due("many(0) of the first", a.many(0), 1);
        C.due("many(0) of the second", b.many(0), 2);
        C.due("becomes(1) by the first one's LAW", a.becomes(1), 2);
        C.due("becomes(1) by the second one's LAW", b.becomes(1), 1);
        C.due("days(3) of the first", a.days(3), 1);
        C.due("days(5) of the second", b.days(5), 0);
        C.due("many(2) of the first", a.many(2), 3);
        C.due("many(2) of the second", b.many(2), 5);
        C.due("ofBlock(0, 1) of the first", a.ofBlock(0, 1), 8);
        C.due("ofBlock(0, 1) of the second", b.ofBlock(0, 1), 63);
        C.due("tell(0) of the second", b.tell(0), 108);
        C.due("trace() of the first", a.trace(), 0);
        C.due("cell(0, 5, 0) of the first", a.cell(0, 5, 0), 'b');
        C.due("cell(0, 5, 0) of the second", b.cell(0, 5, 0), 'h');
        C.due("put(1, 0, 0) of the first", a.put(1, 0, 0), Checks.NULL);
        C.due("fault() of the second", b.fault(), 0);
        C.due("fault() of the first", a.fault(), 1);
    }

    private static void aNewOneBesideABusyOne() {
        List<Long> ofNew = Run.fresh().howAllStandsWithFault();
        List<Long> ofBusy = Run.busy().howAllStandsWithFault();
        Run busy = Run.busy();
        Run made = Run.fresh();
        C.due("a new one beside a busy one", made.howAllStandsWithFault().equals(ofNew) ? 1 : 0, 1);
        C.due("a busy one beside a new one", busy.howAllStandsWithFault().equals(ofBusy) ? 1 : 0, 1);
        for (long standing : ofNew.subList(0, 7)) {
            C.due("fault(), trace(), many(0) to many(4) of a new one", standing, 0);
        }
    }

    /** What one does to a set of two is done twice if they share anything. */
    private static void sameCallsInTurn() {
        MarbleGarden[] two = {Checks.gardenOf("g170;b011;n011;h771"), Checks.gardenOf("g170;b011;n011;h771")};
        for (int turn = 0; turn < 8; turn++) {
            for (MarbleGarden x : two) {
                C.due("stroke(0, 5), turn " + turn, x.stroke(0, 5), turn % 2 == 0 ? 33 : 1);
                C.due("hurry(1, ..), turn " + turn, x.hurry(1, turn % 4 + 1), turn == 0 ? 1 : (turn - 1) % 4 + 1);
                C.due("look(2), turn " + turn, x.look(2), 63);
                C.due("reading(0, 0, 0), turn " + turn, x.reading(0, 0, 0), turn);
            }
            for (MarbleGarden x : two) {
                C.due("away(2), turn " + turn, x.away(2), 0);
                C.due("sign(2), turn " + turn, x.sign(2), 40);
                C.due("many(4), turn " + turn, x.many(4), turn + 1);
            }
        }
        C.due("trace()", two[0].trace(), two[1].trace());
    }

    /** Whole runs of 512 calls, mixed call by call: each is answered as it is alone. */
    private static void drawnRunsMixed() throws Exception {
        for (int group = 0; group < GROUPS; group++) {
            List<List<DrawnRun.Told>> runs = new ArrayList<>();
            for (int r = 0; r < OBJECTS; r++) {
                DrawnRun run = new DrawnRun(1_000_000L + group * OBJECTS + r);
                boolean asDue = run.endsAsDueWith(DrawnRun.METHODS.get((group + r) % DrawnRun.METHODS.size()));
                C.due("run " + r + " of group " + group + " alone", asDue ? 1 : 0, 1);
                runs.add(run.told());
            }
            mix(runs, new Random(group));
        }
    }

    private static void mix(List<List<DrawnRun.Told>> runs, Random random) throws Exception {
        MarbleGarden[] objects = new MarbleGarden[OBJECTS];
        int[] next = new int[OBJECTS];
        int left = OBJECTS;
        while (left > 0) {
            int r = random.nextInt(OBJECTS);
            if (next[r] == runs.get(r).size()) {
                continue;
            }
            // some are made only when others have long been used
            if (objects[r] == null) {
                objects[r] = new MarbleGarden();
            }
            DrawnRun.Told call = runs.get(r).get(next[r]);
            C.due("call " + next[r] + " of run " + r + ", " + call, call.callOn(objects[r]), call.due());
            next[r]++;
            left -= next[r] == runs.get(r).size() ? 1 : 0;
        }
    }
}
