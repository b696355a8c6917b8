/** Promises 1 to 6: the garden and its TEXT. */
public final class GardenTest {
    private static final Checks C = new Checks();
    private static final String SIX = "g030;b011;n122;h331;b774;n442;h044";

    public static void main(String[] args) {
        newObject();
        texts();
        firstFaults();
        gardenRefusals();
        gardenMakesAnew();
        ofBlock();
        becomes();
        enact();
        hurry();
        C.finish();
    }

    private static void newObject() {
        MarbleGarden x = new MarbleGarden();
        C.due("fault()", x.fault(), 0);
        C.due("trace()", x.trace(), 0);
        for (int what = 0; what <= 4; what++) {
            C.due("many(" + what + ")", x.many(what), 0);
        }
        C.due("ofBlock(0, 0)", x.ofBlock(0, 0), MarbleGarden.UNKNOWN);
        for (int k = 0; k < 4; k++) {
            C.due("lose(" + k + ") of a new object", x.lose(k), 0);
            C.dueWithFault(x, "put(" + k + ", 0, 0) of a new object", x.put(k, 0, 0), Checks.NULL, 1);
        }
    }

    private static void texts() {
        for (int lane = 0; lane <= 2; lane++) {
            MarbleGarden x = new MarbleGarden();
            Checks.fill(x, 3, lane, "77" + SIX + "b");
            C.dueWithFault(x, "garden of six BLOCKS", x.garden(3, lane, 2, SIX.length()), 6, 0);
            C.due("many(0)", x.many(0), 6);
            C.due("many(1)", x.many(1), 30);
            C.due("its last kind", x.ofBlock(5, 0), 2);
            C.due("its last SHAPE", x.ofBlock(5, 1), 4);
            C.due("its last PACE", x.ofBlock(5, 2), 4);
        }
        for (int law : new int[] {0, 9, 10, 99, 100, 109, 199, 200, 249, 250, 255}) {
            MarbleGarden x = new MarbleGarden();
            C.due("garden with LAW " + law, Checks.take(x, String.format("g%03d;n771", law)), 1);
            C.due("many(1)", x.many(1), law);
        }
    }

    private static void firstFaults() {
        String[] texts = {"", "x", "G", "g", "g3", "gx", "g/", "g2", "g26", "g2:", "g1", "g1x", "g25", "g256", "g249x",
            "g19", "g19:", "g199", "g2550", "g255", "g255;", "g255;x", "g255;B", "g255;;", "g255;b", "g255;b8",
            "g255;b/", "g255;b7", "g255;b78", "g255;b77", "g255;b770", "g255;b775", "g255;b771x", "g255;b7711",
            "g255;b771;", "g255;b771;n", "g255;b771;n7", "g255;b771;n77", "g255;b771;n775", SIX + ";", SIX + "x",
            SIX + ";b771", "xg030;b011", " g030;b011"};
        int[] places = {0, 0, 0, 1, 1, 1, 1, 2, 2, 2, 2, 2, 3, 3, 4,
            3, 3, 4, 4, 4, 5, 5, 5, 5, 6, 6,
            6, 7, 7, 8, 8, 8, 9, 9,
            10, 11, 12, 13, 13, 34, 34,
            34, 0, 0};
        for (int t = 0; t < texts.length; t++) {
            MarbleGarden x = Checks.gardenOf("g110;h123");
            C.dueWithFault(x, "garden of '" + texts[t] + "'", Checks.take(x, texts[t]), -100 - places[t], 0);
            C.due("many(0) behind it", x.many(0), 1);
            C.due("many(1) behind it", x.many(1), 110);
            C.due("ofBlock(0, 1) behind it", x.ofBlock(0, 1), 10);
        }
        MarbleGarden x = new MarbleGarden();
        Checks.fill(x, 1, Checks.INTS, 103 + 256, 48, 48, 48);
        C.due("codes of ints are not cut", x.garden(1, Checks.INTS, 0, 4), -100);
        Checks.fill(x, 1, Checks.BYTES, 103 + 256, 48, 48, 48);
        C.due("codes of bytes are cut as they come to it", x.garden(1, Checks.BYTES, 0, 4), -104);
        Checks.fill(x, 1, Checks.INTS, 0, 0, 103, 51);
        C.due("places are those of the TEXT", x.garden(1, Checks.INTS, 2, 2), -101);
    }

    private static void gardenRefusals() {
        MarbleGarden x = new MarbleGarden();
        Checks.fill(x, 1, Checks.SHORTS, "g000;b001");
        C.dueWithFault(x, "sheet -1", x.garden(-1, 9, 0, 9), -1, 0);
        C.dueWithFault(x, "sheet 4", x.garden(4, 1, 0, 9), -1, 0);
        C.dueWithFault(x, "CAST to bytes", x.garden(1, 0, 99, -1), Checks.CAST, 2);
        C.dueWithFault(x, "lane -1", x.garden(1, -1, 99, -1), -2, 0);
        C.dueWithFault(x, "CAST to ints", x.garden(1, 2, 0, 9), Checks.CAST, 2);
        C.dueWithFault(x, "lane 3", x.garden(1, 3, 0, 9), -2, 0);
        C.dueWithFault(x, "nothing is no CAST", x.garden(0, 2, 0, -1), Checks.NULL, 1);
        C.dueWithFault(x, "SIZE", x.garden(1, 1, 99, -1), Checks.SIZE, 4);
        C.dueWithFault(x, "i -1", x.garden(1, 1, -1, 9), Checks.INDEX, 3);
        C.dueWithFault(x, "i -1, none", x.garden(1, 1, -1, 0), Checks.INDEX, 3);
        C.dueWithFault(x, "i 10, none", x.garden(1, 1, 10, 0), Checks.INDEX, 3);
        C.dueWithFault(x, "i 9, none", x.garden(1, 1, 9, 0), -100, 0);
        C.dueWithFault(x, "n 10", x.garden(1, 1, 0, 10), Checks.INDEX, 3);
        C.dueWithFault(x, "i 1, n 9", x.garden(1, 1, 1, 9), Checks.INDEX, 3);
        C.dueWithFault(x, "i and n wrap", x.garden(1, 1, 5, Integer.MAX_VALUE), Checks.INDEX, 3);
        C.due("many(0)", x.many(0), 0);
        C.dueWithFault(x, "all of it", x.garden(1, 1, 0, 9), 1, 0);
    }

    private static void gardenMakesAnew() {
        MarbleGarden x = Checks.gardenOf(SIX);
        x.look(2);
        x.days(7);
        x.reading(1, 3, 5);
        x.tell(2);
        int trace = x.trace();
        C.due("a TEXT with a fault", Checks.take(x, "g030;b011;"), -110);
        C.due("many(2)", x.many(2), 7);
        C.due("many(3)", x.many(3), 1);
        C.due("many(4)", x.many(4), 1);
        C.due("a TEXT that is taken", Checks.take(x, "g090;b011;b022"), 2);
        C.due("many(0)", x.many(0), 2);
        C.due("many(1)", x.many(1), 90);
        C.due("many(2)", x.many(2), 0);
        C.due("many(3)", x.many(3), 0);
        C.due("many(4)", x.many(4), 0);
        C.due("ofBlock(2, 0)", x.ofBlock(2, 0), -1);
        C.due("trace() is not of the garden", x.trace(), trace);
        C.due("cell(0, 0, 0): SHEETS are not of the garden", x.cell(0, 0, 0), 'g');
    }

    private static void ofBlock() {
        MarbleGarden x = Checks.gardenOf(SIX);
        int[][] want = {{0, 1, 1, 1, 0, 1}, {1, 10, 2, 3, 0, 2}, {2, 27, 1, 2, 0, 4}, {0, 63, 4, 4, 0, 6},
            {1, 36, 2, 3, 0, 2}, {2, 4, 4, 8, 0, 1}};
        for (int k = 0; k < 6; k++) {
            for (int what = 0; what < 6; what++) {
                C.due("ofBlock(" + k + ", " + what + ")", x.ofBlock(k, what), want[k][what]);
            }
        }
        x.look(3);
        C.due("ofBlock(3, 4), looked at", x.ofBlock(3, 4), 1);
        C.due("ofBlock(2, 4), not looked at", x.ofBlock(2, 4), 0);
        C.due("ofBlock(0, -1)", x.ofBlock(0, -1), -2);
        C.due("ofBlock(0, 6)", x.ofBlock(0, 6), -2);
        C.due("ofBlock(-1, 6)", x.ofBlock(-1, 6), -1);
        C.due("ofBlock(6, -1)", x.ofBlock(6, -1), -1);
    }

    private static void becomes() {
        MarbleGarden none = new MarbleGarden();
        C.due("becomes(63) without a garden", none.becomes(63), -3);
        C.due("becomes(64) without a garden", none.becomes(64), -2);
        MarbleGarden x = Checks.gardenOf("g030;b001");
        C.due("30: becomes(1)", x.becomes(1), 35);
        C.due("becomes(-1)", x.becomes(-1), -2);
        C.due("becomes(64)", x.becomes(64), -2);
        // LAW 2: a cell is set if only the one below it is; LAW 16: only the one above
        x.enact(2);
        C.due("2: becomes(1)", x.becomes(1), 2);
        C.due("2: becomes(32), round the ring", x.becomes(32), 1);
        x.enact(16);
        C.due("16: becomes(2)", x.becomes(2), 1);
        C.due("16: becomes(1), round the ring", x.becomes(1), 32);
        x.enact(51);
        C.due("51: becomes(21), all cells change", x.becomes(21), 42);
        C.due("ofBlock(0, 1): nothing went on", x.ofBlock(0, 1), 0);
    }

    private static void enact() {
        MarbleGarden none = new MarbleGarden();
        C.due("enact(255) without a garden", none.enact(255), -3);
        C.due("enact(256) without a garden", none.enact(256), -2);
        C.due("many(1)", none.many(1), 0);
        MarbleGarden x = Checks.gardenOf("g030;b011");
        C.due("enact(-1)", x.enact(-1), -2);
        C.due("enact(256)", x.enact(256), -2);
        C.due("many(1)", x.many(1), 30);
        C.due("enact(255)", x.enact(255), 30);
        C.due("many(1)", x.many(1), 255);
        C.due("becomes(0)", x.becomes(0), 63);
        C.due("enact(0)", x.enact(0), 255);
        C.due("becomes(63)", x.becomes(63), 0);
    }

    private static void hurry() {
        MarbleGarden x = Checks.gardenOf("g030;h011;n012");
        C.due("hurry(0, 4)", x.hurry(0, 4), 1);
        C.due("ofBlock(0, 2)", x.ofBlock(0, 2), 4);
        C.due("ofBlock(0, 3)", x.ofBlock(0, 3), 8);
        C.due("ofBlock(1, 2)", x.ofBlock(1, 2), 2);
        C.due("hurry(0, 0)", x.hurry(0, 0), -2);
        C.due("hurry(0, 5)", x.hurry(0, 5), -2);
        C.due("hurry(2, 0)", x.hurry(2, 0), -1);
        C.due("hurry(-1, 1)", x.hurry(-1, 1), -1);
        C.due("hurry(0, 1)", x.hurry(0, 1), 4);
    }
}
