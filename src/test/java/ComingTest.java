/** Promises 12 to 17: what it will be. By LAW 170 all cells move one up by each STEP. */
public final class ComingTest {
    private static final Checks C = new Checks();

    public static void main(String[] args) {
        comes();
        strokes();
        round();
        eden();
        alike();
        lawsThatFit();
        lawsRefused();
        C.finish();
    }

    private static void comes() {
        MarbleGarden x = Checks.gardenOf("g170;b011;n011;h014");
        for (int bit = 0; bit < 6; bit++) {
            C.due("comes(0, bit " + bit + ")", x.comes(0, 1 << bit), bit);
        }
        C.due("comes(1, 16), by 2 a day", x.comes(1, 16), 2);
        C.due("comes(1, 2)", x.comes(1, 2), -9);
        C.due("comes(2, 4), by 8 a day", x.comes(2, 4), 1);
        C.due("comes(0, 63)", x.comes(0, 63), -9);
        x.look(0);
        C.due("comes(0, 8), as if nobody looked", x.comes(0, 8), 3);
        C.due("comes(0, 64)", x.comes(0, 64), -2);
        C.due("comes(0, -1)", x.comes(0, -1), -2);
        C.due("comes(3, 64)", x.comes(3, 64), -1);
        C.due("comes(-1, 0)", x.comes(-1, 0), -1);
        C.due("ofBlock(0, 1)", x.ofBlock(0, 1), 1);
        C.due("many(2)", x.many(2), 0);
    }

    private static void strokes() {
        MarbleGarden x = Checks.gardenOf("g170;b011;n011;b001");
        C.due("strokes(0, 32): it comes by itself", x.strokes(0, 32), 0);
        // from 1 by two a day only bits 0, 2, 4 come; of 2 | 8 | 32 each is two strokes off
        C.due("strokes(1, 2)", x.strokes(1, 2), 3);
        // from nothing any lone cell will do: the least is bit 0
        C.due("strokes(2, 16)", x.strokes(2, 16), 1);
        C.due("strokes(2, 9), two cells at three apart", x.strokes(2, 9), 9);
        C.due("strokes(0, 63): only at once", x.strokes(0, 63), 62);
        x.look(2);
        C.due("strokes(2, 16), as if nobody looked", x.strokes(2, 16), 1);
        C.due("strokes(0, 64)", x.strokes(0, 64), -2);
        C.due("strokes(0, -1)", x.strokes(0, -1), -2);
        C.due("strokes(3, -1)", x.strokes(3, -1), -1);
        C.due("strokes(-1, 0)", x.strokes(-1, 0), -1);
        C.due("ofBlock(2, 1)", x.ofBlock(2, 1), 0);
        strokesOfRuns();
    }

    /** By LAW 136 a cell stays while the one below it is set: a run of them loses its lowest. */
    private static void strokesOfRuns() {
        MarbleGarden x = Checks.gardenOf("g136;b071");
        C.due("strokes(0, 0)", x.strokes(0, 0), 0);
        C.due("strokes(0, 4)", x.strokes(0, 4), 0);
        C.due("strokes(0, 8)", x.strokes(0, 8), 8);
        C.due("strokes(0, 2): 3 is nearer than 2", x.strokes(0, 2), 4);
        // by four cells to 32, 52, 50 or 62, by more to 48, 56, 58, 60
        C.due("strokes(0, 32)", x.strokes(0, 32), 39);
    }

    private static void round() {
        MarbleGarden none = new MarbleGarden();
        C.due("round(0, 0) without a garden", none.round(0, 0), -3);
        C.due("round(64, 0) without a garden", none.round(64, 0), -2);
        C.due("round(0, 2) without a garden", none.round(0, 2), -2);
        MarbleGarden x = Checks.gardenOf("g170;h014");
        C.due("round(1, 0)", x.round(1, 0), 0);
        C.due("round(1, 1), of STEPS, not DAYS", x.round(1, 1), 6);
        C.due("round(9, 1)", x.round(9, 1), 3);
        C.due("round(21, 0)", x.round(21, 0), 0);
        C.due("round(21, 1)", x.round(21, 1), 2);
        C.due("round(63, 1)", x.round(63, 1), 1);
        C.due("round(-1, 0)", x.round(-1, 0), -2);
        C.due("round(64, 0)", x.round(64, 0), -2);
        C.due("round(0, -1)", x.round(0, -1), -2);
        C.due("round(0, 2)", x.round(0, 2), -2);
        x.enact(136);
        C.due("136: round(31, 0)", x.round(31, 0), 5);
        C.due("136: round(31, 1)", x.round(31, 1), 1);
        x.enact(51);
        C.due("51: round(5, 0)", x.round(5, 0), 0);
        C.due("51: round(5, 1)", x.round(5, 1), 2);
    }

    private static void eden() {
        MarbleGarden none = new MarbleGarden();
        C.due("eden(0) without a garden", none.eden(0), MarbleGarden.LOST);
        MarbleGarden x = Checks.gardenOf("g204;b011");
        C.due("204: eden(0)", x.eden(0), 1);
        C.due("204: eden(62)", x.eden(62), 1L << 62);
        C.due("204: eden(63), the sign", x.eden(63), 1L << 63);
        C.due("eden(-1)", x.eden(-1), MarbleGarden.LOST);
        C.due("eden(64)", x.eden(64), MarbleGarden.LOST);
        x.enact(0);
        C.due("0: eden(0), all", x.eden(0), -1);
        C.due("0: eden(1), none", x.eden(1), 0);
        x.enact(51);
        C.due("51: eden(21)", x.eden(21), 1L << 42);
    }

    private static void alike() {
        MarbleGarden x = Checks.gardenOf("g170;b011;n021;b041;b011;h011");
        C.due("alike(0, 1): d is 1 and 2 d", x.alike(0, 1), 5);
        C.due("alike(1, 0)", x.alike(1, 0), 5);
        C.due("alike(0, 2), equally fast", x.alike(0, 2), -9);
        C.due("alike(0, 3), at once", x.alike(0, 3), 0);
        C.due("alike(1, 4), equally fast by other kinds", x.alike(1, 4), -9);
        x.look(0);
        C.due("alike(0, 1), as if nobody looked", x.alike(0, 1), 5);
        C.due("alike(2, 2)", x.alike(2, 2), -1);
        C.due("alike(5, 0)", x.alike(5, 0), -1);
        C.due("alike(0, 5)", x.alike(0, 5), -1);
        C.due("alike(-1, 0)", x.alike(-1, 0), -1);
        C.due("alike(0, -1)", x.alike(0, -1), -1);
        C.due("alike(7, 7)", x.alike(7, 7), -1);
    }

    private static void lawsAre(MarbleGarden x, int many, int least, int greatest, int... row) {
        Checks.fill(x, 2, Checks.SHORTS, row);
        int[] want = {many, least, greatest};
        for (int what = 0; what < 3; what++) {
            C.dueWithFault(x, "laws by " + java.util.Arrays.toString(row) + ", " + what,
                x.laws(2, Checks.SHORTS, 0, row.length, what), want[what], 0);
        }
    }

    private static void lawsThatFit() {
        MarbleGarden x = new MarbleGarden();
        lawsAre(x, 256, 0, 255);
        lawsAre(x, 256, 0, 255, 63);
        lawsAre(x, 128, 0, 254, 0, 0);
        lawsAre(x, 128, 1, 255, 0, 63);
        lawsAre(x, 0, -9, -9, 0, 1);
        lawsAre(x, 16, 2, 234, 1, 2);
        lawsAre(x, 16, 16, 248, 2, 1);
        lawsAre(x, 0, -9, -9, 1, 2, 1);
        Checks.fill(x, 2, Checks.SHORTS, 9, 0, 63, 0, 9);
        C.due("laws of cells from 1 on", x.laws(2, Checks.SHORTS, 1, 3, 2), 127);
        int[] twenty = new int[21];
        twenty[20] = 1;
        Checks.fill(x, 2, Checks.INTS, twenty);
        C.due("laws by twenty", x.laws(2, Checks.INTS, 0, 20, 0), 128);
        C.due("laws by the last twenty", x.laws(2, Checks.INTS, 1, 20, 0), 0);
    }

    private static void lawsRefused() {
        MarbleGarden x = new MarbleGarden();
        Checks.fill(x, 2, Checks.BYTES, 0, 64, -1, 0);
        C.dueWithFault(x, "CAST", x.laws(2, 1, 9, 2, 0), Checks.CAST, 2);
        C.dueWithFault(x, "64 is no SHAPE", x.laws(2, 0, 0, 2, 0), -2, 0);
        C.dueWithFault(x, "-1 is no SHAPE", x.laws(2, 0, 2, 1, 0), -2, 0);
        C.dueWithFault(x, "what is not taken may be none", x.laws(2, 0, 0, 1, 0), 256, 0);
        C.dueWithFault(x, "what is not taken may be none", x.laws(2, 0, 3, 1, 0), 256, 0);
        C.dueWithFault(x, "none taken at the end", x.laws(2, 0, 4, 0, 0), 256, 0);
        C.dueWithFault(x, "none taken beyond", x.laws(2, 0, 5, 0, 0), Checks.INDEX, 3);
        C.dueWithFault(x, "lane -1", x.laws(2, -1, 0, 1, 0), -2, 0);
        C.dueWithFault(x, "none taken ahead", x.laws(2, 0, -1, 0, 0), Checks.INDEX, 3);
        C.dueWithFault(x, "lane 3", x.laws(2, 3, 0, 1, 0), -2, 0);
        C.dueWithFault(x, "INDEX goes ahead of OUTSIDE of a cell", x.laws(2, 0, 0, 5, 0), Checks.INDEX, 3);
        C.dueWithFault(x, "n -1", x.laws(2, 0, 0, -1, 0), -2, 0);
        C.dueWithFault(x, "n 21", x.laws(2, 0, 0, 21, 0), -2, 0);
        C.dueWithFault(x, "NULL", x.laws(1, 0, 0, 1, 0), Checks.NULL, 1);
        C.dueWithFault(x, "what -1", x.laws(2, 0, 0, 1, -1), -2, 0);
        C.dueWithFault(x, "what 3", x.laws(2, 0, 0, 1, 3), -2, 0);
        C.dueWithFault(x, "sheet -1", x.laws(-1, 3, 0, 1, 0), -1, 0);
        C.dueWithFault(x, "sheet 4", x.laws(4, 0, 0, 1, 3), -1, 0);
    }
}
