/** YEARS of "Terms", and promise 11: years. By LAW 170 a cell moves one up by each STEP. */
final class EdgesOfYears {
    private static final String SIX = "g170;b011;b021;b041;b101;b201;b401";
    private static final int[] WHATS = {0, 1, 2, 3, 4, 10, 11, 12, 13, 14, 15};

    /** A run whose SHEET 3 has pairs, and what YEARS of all of them answer. */
    private static Run told(Run x, long want, int what, int... pairs) {
        return x.row(3, Edges.INTS, pairs).asks(want, "years", 3, Edges.INTS, 0, pairs.length / 2, what);
    }

    /** So many pairs, all alike. */
    private static int[] times(int n, int first, int second) {
        int[] pairs = new int[2 * n];
        for (int p = 0; p < n; p++) {
            pairs[2 * p] = first;
            pairs[2 * p + 1] = second;
        }
        return pairs;
    }

    // ---- what YEARS are

    static void yearsAreFromNow() {
        Edges.terms("YEARS told: a row of pairs, one behind another, from how all is now (nothing is changed)", 11);
        Run x = Run.busy();
        // nothing told: all is as it is now, SHAPES 4, 10, 17, the second LOOKED at
        told(x, 2, 0).asks(5, "years", 3, Edges.INTS, 0, 0, 2).asks(0, "years", 3, Edges.INTS, 0, 0, 3);
        x.asks(4, "years", 3, Edges.INTS, 0, 0, 10).asks(17, "years", 3, Edges.INTS, 0, 0, 12);
        // a DAY ahead of a STROKE and behind it
        told(x, 9, 10, 1, 0, 0, 10);
        told(x, 10, 10, 0, 10, 1, 0);
        told(x, 0, 1, 1, 1);
        told(x, 0, 0, 1, 2);
        told(x, 7, 0, 0, 1, 2, 1, 1, 2, 1, 1);
        told(x, 15, 3, 7, 0, 8, 0);
    }

    static void soManyDays() {
        Edges.terms("a number 0 .. 99 and 0: so many DAYS", 11);
        Run x = Run.of("g170;b011");
        told(x, 0, 3, 0, 0).asks(1, "years", 3, Edges.INTS, 0, 1, 10);
        told(x, 1, 3, 1, 0).asks(2, "years", 3, Edges.INTS, 0, 1, 10);
        told(x, 99, 3, 99, 0).asks(8, "years", 3, Edges.INTS, 0, 1, 10);
        told(x, Edges.OUTSIDE, 3, 100, 0);
        told(x, Edges.OUTSIDE, 3, -1, 0);
    }

    static void lookAndAway() {
        Edges.terms("a BLOCK and 1: one LOOKS at it; and 2: AWAY", 11);
        Run x = Run.of(SIX);
        for (int k = 0; k < 6; k++) {
            told(x, 1 << k, 0, k, 1).asks(1 << k, "years", 3, Edges.INTS, 0, 1, 10 + k);
            told(x, 0, 0, k, 1, k, 2);
            told(x, 1 << k, 10 + k, k, 1, 1, 0, k, 2);
        }
        told(x, 2, 10, 0, 1, 1, 0, 0, 2, 1, 0);
    }

    static void strokesAtCells() {
        Edges.terms("and 10 .. 15: a STROKE at the cell that is 10 less.", 11);
        Run x = Run.of("g170;b001;b771");
        for (int cell = 0; cell < 6; cell++) {
            told(x, 1 << cell, 10, 0, 10 + cell);
            told(x, 63 - (1 << cell), 11, 1, 10 + cell);
            told(x, 0, 10, 0, 10 + cell, 0, 10 + cell);
        }
        told(x, Edges.OUTSIDE, 10, 0, 9);
        told(x, Edges.OUTSIDE, 10, 0, 16);
    }

    static void firstWrong() {
        Edges.terms("FIRST WRONG: the first act that can't be.", 11);
        Run x = Run.of(SIX);
        told(x, 0, 1, 0, 2);
        told(x, 1, 1, 0, 1, 0, 1);
        told(x, 2, 1, 0, 1, 0, 2, 0, 2, 0, 2);
        told(x, 3, 1, 0, 1, 99, 0, 0, 12, 0, 1, 1, 2);
        told(x, Edges.NONE, 1, 0, 1, 0, 2, 0, 1, 1, 1, 0, 2, 1, 2);
        told(Run.busy(), 0, 1, 1, 1, 1, 2);
        told(Run.busy(), Edges.NONE, 1, 1, 2, 1, 1);
    }

    // ---- 11 years

    static void nPairsOfASheet() {
        Edges.promise(11, "YEARS of n pairs, that are cells of a SHEET from i on (2 n)");
        for (int lane = 0; lane <= 2; lane++) {
            // a full SHEET: the last 40 cells are 20 pairs
            int[] cells = new int[60];
            for (int p = 20; p < 60; p += 2) {
                cells[p] = p;
            }
            Run x = Run.of("g170;b011").row(3, lane, cells);
            x.asks(780, "years", 3, lane, 20, 20, 3).asks(0, "years", 3, lane, 20, 0, 3).asks(20, "years", 3, lane, 20, 1, 3);
            x.asks(58, "years", 3, lane, 58, 1, 3).asks(0, "years", 3, lane, 60, 0, 3);
            x.asks(290, "years", 3, lane, 0, 20, 3);
        }
    }

    static void whoIsLookedAt() {
        Edges.promise(11, "who is LOOKED at then, as a set (what 0)");
        Run x = Run.of(SIX);
        told(x, 0, 0);
        told(x, 63, 0, 0, 1, 1, 1, 2, 1, 3, 1, 4, 1, 5, 1);
        told(x, 33, 0, 0, 1, 5, 1, 3, 1, 3, 2);
        told(Run.busy(), 2, 0);
        told(Run.busy(), 0, 0, 1, 2);
    }

    static void whichIsWrong() {
        Edges.promise(11, "their FIRST WRONG (1; NONE)");
        Run x = Run.of("g170;b011");
        told(x, Edges.NONE, 1);
        told(x, 0, 1, 0, 2);
        int[] lastIsWrong = times(20, 0, 10);
        lastIsWrong[39] = 2;
        told(x, 19, 1, lastIsWrong);
        told(x, Edges.NONE, 1, times(20, 0, 10));
    }

    static void cellsThatAreSet() {
        Edges.promise(11, "how many cells of all BLOCKS are set then (2)");
        Run none = Run.of("g170;b001;b001;b001;b001;b001;b001");
        told(none, 0, 2);
        told(none, 1, 2, 5, 15);
        Run all = Run.of("g170;b771;b771;b771;b771;b771;b771");
        told(all, 36, 2);
        told(all, 36, 2, 99, 0);
        told(all, 35, 2, 0, 10);
    }

    static void daysThatGoBy() {
        Edges.promise(11, "how many DAYS go by in them (3)");
        told(Run.busy(), 0, 3);
        told(Run.busy(), 1980, 3, times(20, 99, 0));
        told(Run.busy(), 0, 3, times(20, 0, 0));
        told(Run.busy(), 0, 3, 0, 1, 0, 10);
    }

    static void daysAlike() {
        Edges.promise(11, "behind how many of these DAYS two BLOCKS at least are of one SHAPE (4)");
        // one BLOCK is not two
        told(Run.of("g000;b001"), 0, 4, 99, 0);
        // how all is now is behind no DAY
        Run two = Run.of("g204;b011;b011");
        told(two, 0, 4);
        told(two, 0, 4, 0, 0);
        told(two, 1, 4, 1, 0);
        told(two, 1980, 4, times(20, 99, 0));
        // a STROKE is not behind a DAY
        told(two, 0, 4, 0, 10, 1, 0, 0, 10);
        told(two, 1, 4, 0, 10, 1, 0, 0, 10, 1, 0);
        // three of one SHAPE, or twice two, are one DAY
        told(Run.of("g204;b011;b011;b011"), 5, 4, 5, 0);
        told(Run.of("g204;b011;b021;b011;b021;b041;b101"), 5, 4, 5, 0);
        // the first and the last
        told(Run.of("g204;b011;b021;b041;b101;b201;b011"), 5, 4, 5, 0);
        told(Run.of("g204;b001;b771"), 0, 4, 5, 0);
        told(Run.of("g204;b771;b771"), 5, 4, 5, 0);
        // one moves by 1, one by 2: of one SHAPE behind each sixth DAY
        told(Run.of("g170;b011;n011"), 0, 4, 5, 0);
        told(Run.of("g170;b011;n011"), 1, 4, 6, 0);
        told(Run.of("g170;b011;n011"), 2, 4, 12, 0);
    }

    static void shapeThen() {
        Edges.promise(11, "SHAPE of BLOCK k then (10 and k; NONE: there is no such BLOCK)");
        Run six = Run.of(SIX);
        Run one = Run.of("g170;b011");
        for (int k = 0; k < 6; k++) {
            told(six, k == 5 ? 1 : 2 << k, 10 + k, 1, 0);
            told(one, k == 0 ? 2 : Edges.NONE, 10 + k, 1, 0);
        }
        told(Run.of("g170;b011;b011;b011;b011;b771"), 63, 14);
        told(Run.of("g170;b011;b011;b011;b011;b771"), Edges.NONE, 15);
    }

    static void withAFirstWrong() {
        Edges.promise(11, "of such with a FIRST WRONG: -100 less that (but what 1).");
        Run x = Run.of("g170;b011;b021");
        int[] lastIsWrong = times(20, 0, 10);
        lastIsWrong[39] = 2;
        for (int what : WHATS) {
            told(x, what == 1 ? 0 : -100, what, 0, 2);
            told(x, what == 1 ? 1 : -101, what, 99, 0, 0, 2, 0, 2);
        }
        for (int what : new int[] {0, 1, 2, 3, 4, 10, 15}) {
            told(Run.of("g170;b011;b021"), what == 1 ? 19 : -119, what, lastIsWrong);
        }
    }

    static void unknownSheet() {
        Edges.promise(11, "UNKNOWN: SHEET");
        Run x = Run.busy().row(3, Edges.INTS, 1, 0);
        x.refusesAround(Edges.UNKNOWN, 0, 3, 0, "years", 3, Edges.INTS, 0, 1, 0);
        x.refuses(Edges.UNKNOWN, "years", 4, 3, 0, 21, 5).refuses(Edges.UNKNOWN, "years", -1, -1, -1, -1, -1);
        Run.fresh().refuses(Edges.UNKNOWN, "years", 4, 0, 0, 0, 0);
    }

    static void outside() {
        Edges.promise(11, "OUTSIDE: lane, n (0 .. 20), what (0 .. 4, 10 .. 15)");
        Run x = Run.of("g170;b011").row(3, Edges.INTS, times(20, 1, 0));
        x.refusesAround(Edges.OUTSIDE, 0, 2, 1, "years", 3, Edges.INTS, 0, 1, 0);
        x.refusesAround(Edges.OUTSIDE, 0, 20, 3, "years", 3, Edges.INTS, 0, 1, 0);
        x.refusesAround(Edges.OUTSIDE, 0, 4, 4, "years", 3, Edges.INTS, 0, 1, 0);
        x.refusesAround(Edges.OUTSIDE, 10, 15, 4, "years", 3, Edges.INTS, 0, 1, 0);
        x.asks(20, "years", 3, Edges.INTS, 0, 20, 3);
        // ahead of each FAULT and of STATE
        x.refuses(Edges.OUTSIDE, "years", 3, Edges.BYTES, 0, 21, 0).refuses(Edges.OUTSIDE, "years", 3, Edges.BYTES, 0, 1, 5);
        x.refuses(Edges.OUTSIDE, "years", 2, 3, 0, 1, 0).refuses(Edges.OUTSIDE, "years", 2, Edges.INTS, 0, -1, 0);
        x.refuses(Edges.OUTSIDE, "years", 3, Edges.INTS, 41, 1, 9).refuses(Edges.OUTSIDE, "years", 3, Edges.INTS, -1, 21, 0);
        Run.fresh().row(3, Edges.INTS).refuses(Edges.OUTSIDE, "years", 3, Edges.INTS, 0, 0, 5);
    }

    static void cast() {
        Edges.promise(11, "FAULTS CAST");
        for (int is = 0; is <= 2; is++) {
            for (int lane = 0; lane <= 2; lane++) {
                Run x = Run.of("g170;b011").row(3, is, 3, 0);
                if (is == lane) {
                    x.asks(3, "years", 3, lane, 0, 1, 3);
                } else {
                    x.faults(Edges.CAST, "years", 3, lane, 0, 1, 3).faults(Edges.CAST, "years", 3, lane, 3, 20, 3);
                    x.faults(Edges.CAST, "years", 3, lane, 0, 0, 3);
                }
            }
        }
        Run.fresh().row(3, Edges.BYTES).faults(Edges.CAST, "years", 3, Edges.INTS, 0, 0, 0);
    }

    static void nothing() {
        Edges.promise(11, "NULL");
        for (int lane = 0; lane <= 2; lane++) {
            Run.busy().faults(Edges.NULL, "years", 3, lane, 0, 0, 0).faults(Edges.NULL, "years", 3, lane, -1, 20, 15);
        }
        Run.fresh().faults(Edges.NULL, "years", 0, 0, 0, 0, 0);
    }

    static void index() {
        Edges.promise(11, "INDEX");
        Run x = Run.of("g170;b011").row(3, Edges.INTS, 1, 0, 2, 0, 3);
        int[][] wrong = {{0, 3}, {1, 3}, {2, 2}, {4, 1}, {5, 1}, {-1, 1}, {-2, 1}, {0, 20}, {Edges.MAX, 1}, {Edges.MIN, 20},
            {Edges.MAX, 20}};
        for (int[] w : wrong) {
            x.faults(Edges.INDEX, "years", 3, Edges.INTS, w[0], w[1], 0);
        }
        x.faultsAround(Edges.INDEX, 0, 5, 2, "years", 3, Edges.INTS, 0, 0, 0);
        x.asks(3, "years", 3, Edges.INTS, 0, 2, 3).asks(2, "years", 3, Edges.INTS, 2, 1, 3);
        // ahead of STATE and of what the pairs are
        Run.fresh().row(3, Edges.INTS, 1).faults(Edges.INDEX, "years", 3, Edges.INTS, 0, 1, 0);
        x.row(3, Edges.INTS, 0, 3, 0).faults(Edges.INDEX, "years", 3, Edges.INTS, 0, 2, 0);
    }

    static void noGarden() {
        Edges.promise(11, "STATE: there is no GARDEN");
        Run x = Run.fresh().row(3, Edges.INTS, 0, 3, 0, 1);
        for (int what : WHATS) {
            x.refuses(Edges.STATE, "years", 3, Edges.INTS, 0, 0, what);
            x.refuses(Edges.STATE, "years", 3, Edges.INTS, 0, 2, what);
        }
    }

    static void pairsOutside() {
        Edges.promise(11, "pair by pair OUTSIDE: the second is none of 0 .. 2, 10 .. 15,"
            + " it is 0 and the first is not 0 .. 99");
        Run x = Run.of("g170;b011");
        for (int second : new int[] {Edges.MIN, -1, 3, 4, 8, 9, 16, 17, Edges.MAX}) {
            told(x, Edges.OUTSIDE, 0, 0, second);
        }
        for (int second : new int[] {0, 1, 10, 15}) {
            told(x, Edges.NONE, 1, 0, second);
        }
        told(x, 0, 1, 0, 2);
        for (int first : new int[] {Edges.MIN, -1, 100, 101, Edges.MAX}) {
            told(x, Edges.OUTSIDE, 0, first, 0);
        }
        for (int what : new int[] {0, 1, 2, 3, 4, 10, 15}) {
            told(Run.of("g170;b011"), Edges.OUTSIDE, what, 99, 0, 0, 3);
        }
    }

    static void pairsUnknown() {
        Edges.promise(11, "UNKNOWN: the first is no BLOCK (of all but 0).");
        for (int second : new int[] {1, 2, 10, 15}) {
            Run x = Run.of("g170;b011;b021");
            for (int first : new int[] {Edges.MIN, -1, 2, 6, Edges.MAX}) {
                told(x, Edges.UNKNOWN, 1, first, second);
            }
            told(x, second == 2 ? 0 : Edges.NONE, 1, 0, second);
            told(x, second == 2 ? 0 : Edges.NONE, 1, 1, second);
        }
        // of 0 it is a number of DAYS
        told(Run.of("g170;b011"), 6, 3, 6, 0);
        told(Run.of(SIX), 32, 0, 5, 1);
        told(Run.of(SIX), Edges.UNKNOWN, 0, 6, 1);
    }

    static void pairsInTheirOrder() {
        Edges.promise(11, "pair by pair");
        Run x = Run.of("g170;b011");
        // of one pair OUTSIDE goes first, of two the first pair
        told(x, Edges.OUTSIDE, 0, 1, 3);
        told(x, Edges.UNKNOWN, 0, 1, 1, 0, 3);
        told(x, Edges.OUTSIDE, 0, 0, 3, 1, 1);
        told(x, Edges.UNKNOWN, 0, 1, 10, 100, 0);
        told(x, Edges.OUTSIDE, 0, 100, 0, 1, 10);
        // a refusal goes ahead of a FIRST WRONG, wherever it stands
        told(x, Edges.OUTSIDE, 1, 0, 2, 0, 3);
        told(x, Edges.UNKNOWN, 1, 0, 2, 1, 1);
        int[] last = times(20, 0, 2);
        last[39] = 16;
        told(Run.of("g170;b011"), Edges.OUTSIDE, 1, last);
        // what is behind the n pairs, or ahead of them, is not looked at
        x.row(3, Edges.INTS, 0, 11, 0, 3).asks(3, "years", 3, Edges.INTS, 0, 1, 10);
        x.row(3, Edges.INTS, 0, 3, 0, 11).asks(3, "years", 3, Edges.INTS, 2, 1, 10);
    }
}
