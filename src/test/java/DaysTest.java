/** Promises 7 to 11: DAYS and YEARS. By LAW 2 a lone cell moves one up by each STEP. */
public final class DaysTest {
    private static final Checks C = new Checks();
    private static final String MOVERS = "g002;b011;n021;h041";

    public static void main(String[] args) {
        days();
        lookAndAway();
        stroke();
        yearsLived();
        yearsWithAWrong();
        yearsRefused();
        C.finish();
    }

    private static void shapes(MarbleGarden x, int... want) {
        for (int k = 0; k < want.length; k++) {
            C.due("ofBlock(" + k + ", 1)", x.ofBlock(k, 1), want[k]);
        }
    }

    private static void days() {
        MarbleGarden none = new MarbleGarden();
        C.due("days(1) without a garden", none.days(1), -3);
        C.due("days(0) without a garden", none.days(0), -2);
        MarbleGarden x = Checks.gardenOf(MOVERS);
        C.due("days(0)", x.days(0), -2);
        C.due("days(301)", x.days(301), -2);
        C.due("days(-1)", x.days(-1), -2);
        C.due("many(2)", x.many(2), 0);
        C.due("days(1)", x.days(1), 3);
        shapes(x, 2, 8, 16);
        C.due("days(3): two are round again", x.days(3), 1);
        shapes(x, 16, 8, 16);
        C.due("many(2)", x.many(2), 4);
        C.due("days(300)", x.days(300), 0);
        shapes(x, 16, 8, 16);
        C.due("many(2)", x.many(2), 304);
        x.look(1);
        C.due("days(1), one is looked at", x.days(1), 2);
        shapes(x, 32, 8, 1);
    }

    private static void lookAndAway() {
        MarbleGarden x = Checks.gardenOf(MOVERS);
        C.due("look(-1)", x.look(-1), -1);
        C.due("look(3)", x.look(3), -1);
        C.due("away(3)", x.away(3), -1);
        C.due("away(-1)", x.away(-1), -1);
        C.due("away(0), nobody looks", x.away(0), -3);
        C.due("look(1)", x.look(1), 2);
        C.due("look(1) again", x.look(1), -3);
        C.due("look(2)", x.look(2), 4);
        C.due("many(3)", x.many(3), 2);
        x.days(1);
        shapes(x, 2, 2, 4);
        C.due("away(1)", x.away(1), 1);
        C.due("away(1) again", x.away(1), -3);
        x.days(1);
        shapes(x, 4, 8, 4);
        C.due("away(2)", x.away(2), 0);
        C.due("many(3)", x.many(3), 0);
    }

    private static void stroke() {
        MarbleGarden x = Checks.gardenOf(MOVERS);
        C.due("stroke(0, 0) clears", x.stroke(0, 0), 0);
        C.due("stroke(0, 5) sets", x.stroke(0, 5), 32);
        C.due("stroke(0, 6)", x.stroke(0, 6), -2);
        C.due("stroke(0, -1)", x.stroke(0, -1), -2);
        C.due("stroke(3, 6)", x.stroke(3, 6), -1);
        C.due("stroke(-1, 0)", x.stroke(-1, 0), -1);
        x.look(1);
        C.due("stroke(1, 0) while it is looked at", x.stroke(1, 0), 3);
        shapes(x, 32, 3, 4);
    }

    private static void yearsAre(MarbleGarden x, int n, int... want) {
        int[] whats = {0, 1, 2, 3, 4, 10, 11, 12, 13, 14, 15};
        for (int w = 0; w < whats.length; w++) {
            C.dueWithFault(x, "years of " + n + " pairs, what " + whats[w],
                x.years(1, Checks.INTS, 0, n, whats[w]), want[w], 0);
        }
    }

    private static void yearsLived() {
        MarbleGarden x = Checks.gardenOf(MOVERS);
        Checks.fill(x, 1, Checks.INTS, 0, 1, 1, 1, 1, 2, 2, 0, 2, 13, 0, 0, 99, 0, 0, 2, 2, 15);
        yearsAre(x, 0, 0, -9, 3, 0, 0, 1, 2, 4, -9, -9, -9);
        yearsAre(x, 2, 3, -9, 3, 0, 0, 1, 2, 4, -9, -9, -9);
        // block 0 is looked at; 1 and 2 move by 2 a day, and 2 is as 0 behind the second
        yearsAre(x, 4, 1, -9, 3, 2, 1, 1, 32, 1, -9, -9, -9);
        yearsAre(x, 6, 1, -9, 4, 2, 1, 1, 32, 9, -9, -9, -9);
        // 198 steps bring all round the ring
        yearsAre(x, 7, 1, -9, 4, 101, 1, 1, 32, 9, -9, -9, -9);
        yearsAre(x, 9, 0, -9, 5, 101, 1, 1, 32, 41, -9, -9, -9);
        shapes(x, 1, 2, 4);
        C.due("many(2): nothing is changed", x.many(2), 0);
        C.due("many(3): nothing is changed", x.many(3), 0);
        yearsAlike();
        yearsFromNow();
    }

    private static void yearsAlike() {
        MarbleGarden x = Checks.gardenOf("g002;b011;n011");
        // one moves by 1, one by 2: alike at first, then behind 6, 12 .. DAYS
        Checks.fill(x, 1, Checks.SHORTS, 5, 0, 1, 0, 7, 0);
        C.due("years, 5 days", x.years(1, Checks.SHORTS, 0, 1, 4), 0);
        C.due("years, 6 days", x.years(1, Checks.SHORTS, 0, 2, 4), 1);
        C.due("years, 13 days", x.years(1, Checks.SHORTS, 0, 3, 4), 2);
        C.due("years, 1 and 7 days", x.years(1, Checks.SHORTS, 2, 2, 4), 1);
        C.due("years, 1 and 7 days, how many", x.years(1, Checks.SHORTS, 2, 2, 3), 8);
    }

    private static void yearsFromNow() {
        MarbleGarden x = Checks.gardenOf("g002;b011;b021");
        x.look(0);
        x.days(1);
        Checks.fill(x, 1, Checks.BYTES, 0, 1, 0, 2, 1, 0, 0, 1);
        C.due("years: look where one looks", x.years(1, Checks.BYTES, 0, 4, 1), 0);
        C.due("years: away, a day, look", x.years(1, Checks.BYTES, 2, 3, 0), 1);
        C.due("years: away, a day, look", x.years(1, Checks.BYTES, 2, 3, 10), 2);
        C.due("years: away, a day, look", x.years(1, Checks.BYTES, 2, 3, 11), 8);
        C.due("years: how many days, from now", x.years(1, Checks.BYTES, 2, 3, 3), 1);
        C.due("many(2)", x.many(2), 1);
        everyCellCanBeStruck(x);
    }

    private static void everyCellCanBeStruck(MarbleGarden x) {
        int[] pairs = {1, 10, 1, 11, 1, 12, 1, 13, 1, 14, 1, 15};
        Checks.fill(x, 1, Checks.BYTES, pairs);
        int shape = 4;
        for (int n = 1; n <= 6; n++) {
            shape ^= 1 << n - 1;
            C.due("years: " + n + " strokes", x.years(1, Checks.BYTES, 0, n, 11), shape);
        }
    }

    private static void yearsWithAWrong() {
        MarbleGarden x = Checks.gardenOf(MOVERS);
        Checks.fill(x, 1, Checks.INTS, 9, 0, 1, 1, 1, 2, 1, 2, 0, 2);
        yearsAre(x, 3, 0, -9, 3, 9, 2, 8, 2, 4, -9, -9, -9);
        yearsAre(x, 5, -103, 3, -103, -103, -103, -103, -103, -103, -103, -103, -103);
        Checks.fill(x, 1, Checks.INTS, 2, 2);
        yearsAre(x, 1, -100, 0, -100, -100, -100, -100, -100, -100, -100, -100, -100);
    }

    private static void yearsRefused() {
        MarbleGarden x = new MarbleGarden();
        Checks.fill(x, 1, Checks.INTS, 0, 3);
        C.dueWithFault(x, "without a garden", x.years(1, 2, 0, 1, 0), -3, 0);
        C.dueWithFault(x, "without a garden, INDEX", x.years(1, 2, 1, 1, 0), Checks.INDEX, 3);
        Checks.take(x, MOVERS);
        C.dueWithFault(x, "CAST", x.years(1, 1, 9, 1, 0), Checks.CAST, 2);
        C.dueWithFault(x, "sheet -1", x.years(-1, 7, 0, 1, 0), -1, 0);
        C.dueWithFault(x, "NULL", x.years(2, 1, 9, 1, 0), Checks.NULL, 1);
        C.dueWithFault(x, "sheet 4", x.years(4, 2, 0, 1, 0), -1, 0);
        for (int what : new int[] {-1, 5, 9, 16, Integer.MIN_VALUE}) {
            C.dueWithFault(x, "what " + what, x.years(1, 2, 0, 0, what), -2, 0);
        }
        C.dueWithFault(x, "lane -1", x.years(1, -1, 0, 0, 0), -2, 0);
        C.dueWithFault(x, "lane 3", x.years(1, 3, 0, 0, 0), -2, 0);
        C.dueWithFault(x, "n -1", x.years(1, 2, 0, -1, 0), -2, 0);
        C.dueWithFault(x, "n 21", x.years(1, 2, 0, 21, 0), -2, 0);
        C.dueWithFault(x, "n 20 is too long here", x.years(1, 2, 0, 20, 0), Checks.INDEX, 3);
        C.dueWithFault(x, "i 2, none", x.years(1, 2, 2, 0, 1), -9, 0);
        C.dueWithFault(x, "i 3, none", x.years(1, 2, 3, 0, 1), Checks.INDEX, 3);
        C.dueWithFault(x, "i -1, none", x.years(1, 2, -1, 0, 1), Checks.INDEX, 3);
        pairRefused(x, -2, 0, 3);
        pairRefused(x, -2, 0, 9);
        pairRefused(x, -2, 0, 16);
        pairRefused(x, -2, 0, -1);
        pairRefused(x, -2, -1, 0);
        pairRefused(x, -2, 100, 0);
        pairRefused(x, -1, 3, 1);
        pairRefused(x, -1, -1, 2);
        pairRefused(x, -1, 6, 15);
        pairRefused(x, -2, 99, 0, 0, 4, 7, 1);
        pairRefused(x, -1, 99, 0, 7, 1, 0, 4);
        // a refusal goes ahead of an act that can't be
        pairRefused(x, -2, 0, 2, 0, 3);
        Checks.fill(x, 1, Checks.INTS, 1, 10, 0, 3);
        C.dueWithFault(x, "pairs that are not taken may be none", x.years(1, 2, 0, 1, 11), 3, 0);
        twentyPairs(x);
    }

    private static void pairRefused(MarbleGarden x, int want, int... pairs) {
        Checks.fill(x, 1, Checks.INTS, pairs);
        for (int what : new int[] {0, 1, 2, 3, 4, 10, 15}) {
            C.dueWithFault(x, "pairs refused " + java.util.Arrays.toString(pairs),
                x.years(1, 2, 0, pairs.length / 2, what), want, 0);
        }
    }

    private static void twentyPairs(MarbleGarden x) {
        int[] pairs = new int[40];
        for (int p = 0; p < 40; p += 2) {
            pairs[p] = 99;
        }
        Checks.fill(x, 1, Checks.INTS, pairs);
        C.dueWithFault(x, "twenty times 99 days", x.years(1, 2, 0, 20, 3), 1980, 0);
    }
}
