/** Part 4 of "Terms", and promises 18 to 23: what it was. By LAW 170 a cell moves one up by each STEP, by 204 all stay. */
final class EdgesOfReadings {
    private static final String SIX = "g170;b011;b021;b041;b101;b201;b401";

    private static Run readings(Run x, int n) {
        for (int r = 0; r < n; r++) {
            x.does("reading", 0, 0, 1);
        }
        return x;
    }

    // ---- what they are

    static void eightAtMost() {
        Edges.terms("READINGS, 8 at most, numbered by how many there are", 18, 19);
        Run x = Run.of(SIX);
        for (int r = 0; r < 8; r++) {
            x.due(r, "reading", r % 6, r, r).asks(r + 1, "many", 4);
        }
        x.refuses(Edges.FULL, "reading", 0, 0, 0).does("back", 1).due(7, "reading", 0, 0, 0);
        x.refuses(Edges.FULL, "reading", 0, 0, 0).does("back", 8).due(0, "reading", 0, 0, 0);
    }

    static void behindDaysFromNow() {
        Edges.terms("behind so many DAYS from now (nobody LOOKING) a BLOCK's SHAPE is v.", 18, 20, 21, 22);
        Run x = Run.of("g170;b011").does("look", 0);
        x.does("reading", 0, 0, 32).asks(1L << 32, "starts", 0).does("back", 1);
        // 99 STEPS bring a cell 3 up
        x.does("reading", 0, 99, 8).asks(2L, "starts", 0).asks(1 << 1 | 1 << 3, "paces", 0).does("back", 1);
        x.does("reading", 0, 1, 2).asks(2L, "starts", 0).asks(2, "paces", 0).does("away", 0);
        // now is when it is asked: a DAY later it is 2, and would be 4 behind another
        x.does("days", 1).asks(0, "paces", 0).asks(2L, "starts", 0);
    }

    static void inPlaceOfWhatItIsAlone() {
        Edges.terms("All that follows: in place of what it is alone, by which all READINGS are so", 20, 21, 22);
        Run x = Run.of("g170;b011;b014").does("reading", 0, 1, 2);
        x.asks(2, "paces", 0).asks(1, "kinds", 0).asks(2L, "starts", 0);
        // those of another BLOCK are so, whatever this one is
        x.asks(30, "paces", 1).asks(7, "kinds", 1).asks(-1L, "starts", 1);
        // and are not: then nothing in place of this one helps
        x.does("reading", 0, 1, 4).asks(0, "paces", 1).asks(0, "kinds", 1).asks(0, "starts", 1);
        // two that gainsay each other
        x.asks(0, "paces", 0).asks(0, "kinds", 0).asks(0, "starts", 0);
        // the last of eight counts as the first
        Run eight = readings(Run.of("g204;b011"), 7);
        eight.asks(2L, "starts", 0).does("reading", 0, 0, 0).asks(0, "starts", 0);
        Run first = Run.of("g204;b011").does("reading", 0, 0, 0);
        readings(first, 7).asks(0, "starts", 0);
    }

    static void whichPaces() {
        Edges.terms("PACES of a BLOCK: 1 .. 4", 20);
        Run x = Run.of("g170;b011;n011;h011");
        int[] shapes = {2, 4, 8, 16};
        for (int pace = 1; pace <= 4; pace++) {
            x.does("reading", 0, 1, shapes[pace - 1]).asks(1 << pace, "paces", 0).does("back", 1);
        }
        // a BUST of PACE 5, or of none, there is not
        x.does("reading", 0, 1, 32).asks(0, "paces", 0).does("back", 1);
        x.does("reading", 0, 1, 1).asks(0, "paces", 0).does("back", 1);
        x.does("reading", 1, 1, 32).asks(16, "paces", 1).does("back", 1);
        x.does("reading", 2, 1, 4).asks(2 | 16, "paces", 2).does("back", 1);
    }

    static void whichKinds() {
        Edges.terms("KINDS of a BLOCK: 0 .. 2", 21);
        Run x = Run.of("g170;b014;n014;h011");
        for (int k = 0; k <= 1; k++) {
            x.does("reading", k, 1, 16).asks(1, "kinds", k).does("back", 1);
            x.does("reading", k, 1, 32).asks(2, "kinds", k).does("back", 1);
            x.does("reading", k, 1, 4).asks(4, "kinds", k).does("back", 1);
            x.does("reading", k, 1, 8).asks(0, "kinds", k).does("back", 1);
        }
        x.does("reading", 2, 1, 4).asks(6, "kinds", 2);
    }

    static void whichStarts() {
        Edges.terms("STARTS of a BLOCK: SHAPES 0 .. 63; as sets.", 22);
        Run x = Run.of("g204;b011");
        for (int v : new int[] {0, 1, 31, 32, 62, 63}) {
            x.does("reading", 0, 99, v).asks(1L << v, "starts", 0).does("back", 1);
        }
        x.does("enact", 0).does("reading", 0, 1, 0).asks(-1L, "starts", 0).does("back", 1);
        x.does("reading", 0, 1, 63).asks(0, "starts", 0);
    }

    static void oddsOfABlock() {
        Edges.terms("ODDS of a BLOCK, of n DAYS and v: if its SHAPE is any of 0 .. 63, all alike: the share by which it is v"
            + " behind n DAYS (nobody LOOKING).", 23);
        Run x = Run.of("g000;b001;b771").does("look", 0).does("look", 1);
        for (int k = 0; k <= 1; k++) {
            x.asks(1, "odds", k, 1, 0, 0).asks(1, "odds", k, 1, 0, 1);
            x.asks(0, "odds", k, 1, 63, 0).asks(1, "odds", k, 1, 63, 1);
            x.asks(1, "odds", k, 0, 0, 0).asks(64, "odds", k, 0, 0, 1);
            x.asks(1, "odds", k, 0, 63, 0).asks(64, "odds", k, 0, 63, 1);
        }
        // by 136 a cell stays while the one below it is set: of 64 only 63 is not 0 behind 5 STEPS
        x.does("enact", 136).asks(63, "odds", 0, 5, 0, 0).asks(64, "odds", 0, 5, 0, 1);
        x.asks(63, "odds", 0, 99, 0, 0).asks(57, "odds", 0, 4, 0, 0).asks(64, "odds", 0, 4, 0, 1);
    }

    // ---- 18 reading

    static void readingNumber() {
        Edges.promise(18, "A READING: its number.");
        Run x = Run.of("g170;b011");
        x.due(0, "reading", 0, 0, 0).due(1, "reading", 0, 99, 63).due(2, "reading", 0, 0, 0).does("back", 2);
        x.due(1, "reading", 0, 0, 0).asks(2, "many", 4);
        readings(x, 5).due(7, "reading", 0, 0, 0);
    }

    static void readingUnknown() {
        Edges.promise(18, "UNKNOWN");
        Run.busy().refusesAround(Edges.UNKNOWN, 0, 2, 0, "reading", 0, 0, 0);
        Run.of(SIX).refusesAround(Edges.UNKNOWN, 0, 5, 0, "reading", 0, 99, 63);
        Run.busy().refuses(Edges.UNKNOWN, "reading", 3, 100, 64).refuses(Edges.UNKNOWN, "reading", -1, -1, -1);
        readings(Run.of("g170;b011"), 8).refuses(Edges.UNKNOWN, "reading", 1, 0, 0);
    }

    static void readingOutside() {
        Edges.promise(18, "OUTSIDE: days (0 .. 99), v (0 .. 63)");
        Run.busy().refusesAround(Edges.OUTSIDE, 0, 99, 1, "reading", 0, 0, 0);
        Run.busy().refusesAround(Edges.OUTSIDE, 0, 63, 2, "reading", 0, 0, 0);
        Run full = readings(Run.of("g170;b011"), 8);
        full.refusesAround(Edges.OUTSIDE, 0, 99, 1, "reading", 0, 0, 0);
        full.refusesAround(Edges.OUTSIDE, 0, 63, 2, "reading", 0, 0, 0);
    }

    static void readingFull() {
        Edges.promise(18, "FULL.");
        Run x = readings(Run.of("g170;b011"), 7).due(7, "reading", 0, 0, 1);
        x.refuses(Edges.FULL, "reading", 0, 0, 0).refuses(Edges.FULL, "reading", 0, 99, 63).asks(8, "many", 4);
        x.does("back", 1).due(7, "reading", 0, 99, 63).refuses(Edges.FULL, "reading", 0, 0, 0);
    }

    // ---- 19 back

    static void backTheEnds() {
        Edges.promise(19, "The last n READINGS (0 .. as many as there are) are taken back: how many are left.");
        Run x = Run.of("g204;b011").asks(0, "back", 0);
        for (int r = 0; r < 8; r++) {
            x.does("reading", 0, 0, r == 0 ? 1 : r < 7 ? 2 : 3);
        }
        x.asks(8, "back", 0).due(7, "back", 1).asks(0, "starts", 0).due(1, "back", 6).asks(2L, "starts", 0);
        x.due(0, "back", 1).asks(-1L, "starts", 0).asks(0, "many", 4).asks(0, "back", 0);
        readings(x, 8).due(0, "back", 8).asks(-1L, "starts", 0);
    }

    static void backOutside() {
        Edges.promise(19, "OUTSIDE.");
        Run.fresh().refusesAround(Edges.OUTSIDE, 0, 0, 0, "back", 0);
        Run.busy().refusesAround(Edges.OUTSIDE, 0, 2, 0, "back", 0);
        readings(Run.of("g204;b011"), 8).refusesAround(Edges.OUTSIDE, 0, 8, 0, "back", 0);
    }

    // ---- 20 paces, 21 kinds, 22 starts

    static void pacesAsASet() {
        Edges.promise(20, "PACES, as a set.");
        Run x = Run.of("g204;b011;n011;h011");
        for (int k = 0; k < 3; k++) {
            x.asks(2 + 4 + 8 + 16, "paces", k);
        }
        x.does("reading", 1, 99, 0).asks(0, "paces", 1);
    }

    static void pacesUnknown() {
        Edges.promise(20, "UNKNOWN.");
        Run.busy().refusesAround(Edges.UNKNOWN, 0, 2, 0, "paces", 0);
        Run.of(SIX).refusesAround(Edges.UNKNOWN, 0, 5, 0, "paces", 0);
    }

    static void kindsAsASet() {
        Edges.promise(21, "KINDS, as a set.");
        Run x = Run.of("g204;b011;n011;h011");
        for (int k = 0; k < 3; k++) {
            x.asks(1 + 2 + 4, "kinds", k);
        }
        x.does("reading", 1, 99, 0).asks(0, "kinds", 1);
    }

    static void kindsUnknown() {
        Edges.promise(21, "UNKNOWN.");
        Run.busy().refusesAround(Edges.UNKNOWN, 0, 2, 0, "kinds", 0);
        Run.of(SIX).refusesAround(Edges.UNKNOWN, 0, 5, 0, "kinds", 0);
    }

    static void startsAsASet() {
        Edges.promise(22, "STARTS, as a set (bit 63 is the sign).");
        Run x = Run.of("g204;b771").asks(-1L, "starts", 0);
        x.does("reading", 0, 0, 63).asks(Long.MIN_VALUE, "starts", 0).does("back", 1);
        x.does("reading", 0, 0, 62).asks(Long.MAX_VALUE / 2 + 1, "starts", 0).does("back", 1);
        x.does("reading", 0, 0, 0).asks(1L, "starts", 0);
    }

    static void startsNone() {
        Edges.promise(22, "0: there are none, there is no such BLOCK.");
        Run x = Run.of(SIX).does("reading", 0, 0, 1).does("reading", 5, 0, 1);
        x.asks(0, "starts", 0).asks(1L << 1, "starts", 5);
        for (int k : new int[] {-1, 6, Edges.MIN, Edges.MAX}) {
            x.refuses(0, "starts", k);
        }
        Run.of("g000;b001").refuses(0, "starts", 1).asks(-1L, "starts", 0);
    }

    // ---- 23 odds

    static void oddsTheEnds() {
        Edges.promise(23, "ODDS of n DAYS (0 .. 99) and v (0 .. 63; which 0 the upper, 1 the lower number).");
        Run x = Run.of("g051;b001;h771");
        for (int n : new int[] {0, 99}) {
            for (int v : new int[] {0, 63}) {
                x.asks(1, "odds", 0, n, v, 0).asks(64, "odds", 0, n, v, 1).asks(1, "odds", 1, n, v, 0);
            }
        }
        // by 0 all are 0 from the first DAY on
        x.does("enact", 0).asks(64, "odds", 0, 0, 0, 1).asks(1, "odds", 0, 1, 0, 1).asks(1, "odds", 0, 99, 0, 1);
        x.asks(0, "odds", 0, 99, 63, 0).asks(1, "odds", 0, 99, 63, 1);
    }

    static void oddsUnknown() {
        Edges.promise(23, "LOST: UNKNOWN");
        Run.busy().refusesAround(Edges.LOST, 0, 2, 0, "odds", 0, 0, 0, 0);
        Run.of(SIX).refusesAround(Edges.LOST, 0, 5, 0, "odds", 0, 99, 63, 1);
    }

    static void oddsOutside() {
        Edges.promise(23, "OUTSIDE.");
        Run x = Run.busy();
        x.refusesAround(Edges.LOST, 0, 99, 1, "odds", 0, 0, 0, 0).refusesAround(Edges.LOST, 0, 63, 2, "odds", 0, 0, 0, 0);
        x.refusesAround(Edges.LOST, 0, 1, 3, "odds", 0, 0, 0, 0).refusesAround(Edges.LOST, 0, 1, 3, "odds", 2, 99, 63, 0);
    }
}
