/** Promises 18 to 23: what it was. By LAW 170 all cells move one up by each STEP. */
public final class ReadingsTest {
    private static final Checks C = new Checks();

    public static void main(String[] args) {
        readingsAndBack();
        pacesKindsStarts();
        readingsAreFromNow();
        othersCountToo();
        withoutBlocks();
        odds();
        C.finish();
    }

    private static void readingsAndBack() {
        MarbleGarden x = Checks.gardenOf("g170;b011;n011");
        C.due("back(0)", x.back(0), 0);
        C.due("back(1)", x.back(1), -2);
        C.due("reading(2, 100, 0)", x.reading(2, 100, 0), -1);
        C.due("reading(-1, 0, 0)", x.reading(-1, 0, 0), -1);
        C.due("reading(0, -1, 0)", x.reading(0, -1, 0), -2);
        C.due("reading(0, 100, 0)", x.reading(0, 100, 0), -2);
        C.due("reading(0, 0, -1)", x.reading(0, 0, -1), -2);
        C.due("reading(0, 0, 64)", x.reading(0, 0, 64), -2);
        C.due("many(4)", x.many(4), 0);
        for (int r = 0; r < 8; r++) {
            C.due("reading " + r, x.reading(r % 2, r == 0 ? 0 : 99, r == 1 ? 63 : 0), r);
            C.due("many(4)", x.many(4), r + 1);
        }
        C.due("a ninth", x.reading(0, 0, 0), -4);
        C.due("a ninth, of no BLOCK", x.reading(2, 0, 0), -1);
        C.due("a ninth, OUTSIDE", x.reading(0, 0, 64), -2);
        C.due("many(4)", x.many(4), 8);
        C.due("back(9)", x.back(9), -2);
        C.due("back(-1)", x.back(-1), -2);
        C.due("back(0)", x.back(0), 8);
        C.due("back(3)", x.back(3), 5);
        C.due("its number is how many there are", x.reading(0, 0, 0), 5);
        C.due("back(6)", x.back(6), 0);
        C.due("many(4)", x.many(4), 0);
    }

    private static void sets(MarbleGarden x, int k, int paces, int kinds, long starts) {
        C.due("paces(" + k + ")", x.paces(k), paces);
        C.due("kinds(" + k + ")", x.kinds(k), kinds);
        C.due("starts(" + k + ")", x.starts(k), starts);
    }

    private static void pacesKindsStarts() {
        MarbleGarden x = Checks.gardenOf("g170;b012;n012;h013");
        sets(x, 0, 30, 7, -1);
        x.reading(0, 1, 4);
        // a HORSE of PACE 2 goes 4, a NYMPH 3; 4 comes of 1 by two steps alone
        sets(x, 0, 1 << 2, 1, 1L << 1);
        sets(x, 1, 30, 7, -1);
        x.back(1);
        x.reading(1, 2, 1);
        // by 3 a day it is round behind two; so is any that goes 3 or 6
        sets(x, 1, 1 << 2, 1 << 1, 1L << 1);
        x.back(1);
        x.reading(2, 3, 1);
        // behind three days all that go an even number are round; a HORSE always does
        sets(x, 2, 30, 1 << 1 | 1 << 2, 1L << 1);
        x.reading(2, 1, 1);
        sets(x, 2, 1 << 3, 1 << 2, 1L << 1);
        x.look(2);
        sets(x, 2, 1 << 3, 1 << 2, 1L << 1);
        C.due("ofBlock(2, 0)", x.ofBlock(2, 0), 2);
        C.due("ofBlock(2, 1)", x.ofBlock(2, 1), 1);
        C.due("ofBlock(2, 2)", x.ofBlock(2, 2), 3);
        x.back(2);
        x.reading(2, 0, 63);
        sets(x, 2, 0, 0, 1L << 63);
    }

    private static void readingsAreFromNow() {
        MarbleGarden x = Checks.gardenOf("g170;b011");
        x.reading(0, 1, 2);
        sets(x, 0, 1 << 1, 1, 1L << 1);
        x.days(1);
        // it is 2 by now, and a READING tells of DAYS from now: only six STEPS would do
        C.due("starts(0) a day later", x.starts(0), 1L << 1);
        C.due("paces(0) a day later", x.paces(0), 0);
        x.stroke(0, 1);
        x.stroke(0, 0);
        sets(x, 0, 1 << 1, 1, 1L << 1);
        x.enact(204);
        C.due("starts(0) by another LAW", x.starts(0), 1L << 2);
    }

    private static void othersCountToo() {
        MarbleGarden x = Checks.gardenOf("g170;b011;b011");
        x.reading(0, 1, 2);
        x.reading(1, 1, 4);
        sets(x, 0, 0, 0, 0);
        sets(x, 1, 1 << 2, 1 << 1 | 1 << 2, 1L << 2);
        x.hurry(1, 2);
        sets(x, 0, 1 << 1, 1, 1L << 1);
    }

    private static void withoutBlocks() {
        MarbleGarden x = Checks.gardenOf("g170;b011");
        for (int k : new int[] {-1, 1, 6, Integer.MAX_VALUE}) {
            C.due("paces(" + k + ")", x.paces(k), -1);
            C.due("kinds(" + k + ")", x.kinds(k), -1);
            C.due("starts(" + k + ")", x.starts(k), 0);
        }
        MarbleGarden none = new MarbleGarden();
        C.due("reading without a garden", none.reading(0, 0, 0), -1);
        C.due("starts without a garden", none.starts(0), 0);
    }

    private static void oddsAre(MarbleGarden x, int k, int n, int v, long upper, long lower) {
        C.due("odds(" + k + ", " + n + ", " + v + ", 0)", x.odds(k, n, v, 0), upper);
        C.due("odds(" + k + ", " + n + ", " + v + ", 1)", x.odds(k, n, v, 1), lower);
    }

    private static void odds() {
        MarbleGarden x = Checks.gardenOf("g008;b021;n022;h772");
        oddsAre(x, 0, 0, 5, 1, 64);
        x.enact(0);
        oddsAre(x, 0, 1, 0, 1, 1);
        oddsAre(x, 0, 1, 5, 0, 1);
        oddsAre(x, 0, 0, 0, 1, 64);
        x.enact(204);
        oddsAre(x, 2, 99, 63, 1, 64);
        // by 136 a cell stays while the one below it is set: a run of r cells is gone behind r STEPS
        x.enact(136);
        x.look(0);
        oddsAre(x, 0, 1, 0, 9, 32);
        oddsAre(x, 0, 2, 0, 39, 64);
        oddsAre(x, 1, 2, 0, 63, 64);
        oddsAre(x, 2, 1, 0, 57, 64);
        oddsAre(x, 2, 1, 63, 1, 64);
        oddsAre(x, 2, 1, 16, 1, 64);
        for (int which = 0; which < 2; which++) {
            C.due("odds of no BLOCK", x.odds(3, 0, 0, which), MarbleGarden.LOST);
            C.due("odds of no BLOCK", x.odds(-1, 0, 0, which), MarbleGarden.LOST);
            C.due("odds, n -1", x.odds(0, -1, 0, which), MarbleGarden.LOST);
            C.due("odds, n 100", x.odds(0, 100, 0, which), MarbleGarden.LOST);
            C.due("odds, v -1", x.odds(0, 0, -1, which), MarbleGarden.LOST);
            C.due("odds, v 64", x.odds(0, 0, 64, which), MarbleGarden.LOST);
        }
        C.due("odds, which -1", x.odds(0, 0, 0, -1), MarbleGarden.LOST);
        C.due("odds, which 2", x.odds(0, 0, 0, 2), MarbleGarden.LOST);
    }
}
