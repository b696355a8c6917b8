import java.util.Arrays;

/**
 * Part 3 of "Terms", and promises 12 to 17: what it will be. By LAW 170 a cell moves one up by each STEP, by LAW 204 all
 * stay. On a ring of six no BLOCK goes on for more than 23 DAYS without a SHAPE that was (LAW 45 from 31 on), so that
 * neither 63 nor 99 DAYS are ever come to.
 */
final class EdgesOfComing {
    private static final String SIX = "g170;b011;b021;b041;b101;b201;b401";
    private static final int[] BY_45 = {31, 48, 38, 37, 7, 20, 29, 51, 2, 58, 39, 4, 53, 15, 8, 43, 30, 16, 23, 60, 32, 46,
        57, 1};

    // ---- what they are

    static void asIfNobodyLooked() {
        Edges.terms("(Nobody LOOKING at any.)", 12, 13, 16);
        Run x = Run.of("g170;b011;n021").does("look", 0).does("look", 1);
        x.asks(5, "comes", 0, 32).asks(0, "strokes", 0, 32).asks(5, "alike", 0, 1);
    }

    static void comesBehindDays() {
        Edges.terms("COMES of a BLOCK to v: behind how many DAYS (0 .. 63) its SHAPE is v; NONE: it never is.", 12);
        Run x = Run.of("g045;b371");
        for (int d = 0; d < BY_45.length; d++) {
            x.asks(d, "comes", 0, BY_45[d]);
        }
        int[] never = {0, 3, 5, 63};
        for (int v : never) {
            x.asks(Edges.NONE, "comes", 0, v);
        }
    }

    static void theFewestStrokes() {
        Edges.terms("STROKES of a BLOCK to v: the fewest cells to be changed now so that it COMES to v: as a set:"
            + " of several the least; NONE: there are none.", 13);
        Run x = Run.of("g170;b001;n001;b021");
        // one cell, wherever it is: the least is cell 0; by two a DAY only every other one comes to 32
        x.asks(1, "strokes", 0, 32).asks(2, "strokes", 1, 32).asks(1, "strokes", 1, 16);
        // from {1}: {1, 3} and {1, 5} come to {0, 2} by one cell; by 7 it is {0, 2} at once, a lesser set, but of three
        x.asks(8, "strokes", 2, 5);
        // v itself can always be made: there is no v without any
        Run dead = Run.of("g000;b001;b771");
        for (int v = 0; v < 64; v++) {
            dead.asks(v, "strokes", 0, v).asks(v == 0 ? 0 : 63 - v, "strokes", 1, v);
        }
    }

    static void roundOfAShape() {
        Edges.terms("ROUND of a SHAPE: behind how many STEPS it first is one to which it comes back;"
            + " by how many STEPS it does.", 14);
        Run still = Run.of("g204;b001");
        still.asks(0, "round", 0, 0).asks(1, "round", 0, 1).asks(0, "round", 63, 0).asks(1, "round", 63, 1);
        // 31 is 29 behind 6 STEPS, and again behind 18 more; 3 is 0 behind 10 STEPS by LAW 30
        Run far = Run.of("g045;b001");
        far.asks(6, "round", 31, 0).asks(18, "round", 31, 1).asks(0, "round", 29, 0).asks(18, "round", 29, 1);
        far.asks(1, "round", 20, 0).asks(18, "round", 20, 1);
        far.does("enact", 30).asks(10, "round", 3, 0).asks(1, "round", 3, 1);
    }

    static void edenOfAShape() {
        Edges.terms("EDEN of v: SHAPES that become v by one STEP.", 15);
        Run x = Run.of("g000;b001");
        x.asks(-1L, "eden", 0).asks(0, "eden", 63).does("enact", 255).asks(0, "eden", 0).asks(-1L, "eden", 63);
        x.does("enact", 170).asks(1L << 1, "eden", 2).asks(1L << 32, "eden", 1).asks(1L << 63, "eden", 63);
    }

    static void alikeBehindDays() {
        Edges.terms("ALIKE of two BLOCKS: behind how many DAYS (0 .. 99) they first have the same SHAPE; NONE: not by then.",
            16);
        // alike at once, though they are again later; behind 23 DAYS; never
        Run.of("g170;b011;n011").asks(0, "alike", 0, 1);
        Run.of("g045;b371;b142").asks(23, "alike", 0, 1).asks(23, "alike", 1, 0);
        Run.of("g204;b011;b021").asks(Edges.NONE, "alike", 0, 1);
        Run.of("g170;b011;b021").asks(Edges.NONE, "alike", 0, 1);
    }

    static void lawsByARow() {
        Edges.terms("LAWS by a row of SHAPES: LAWS (0 .. 255) by which each becomes the next by one STEP.", 17);
        lawsAre(256, 0, 255);
        lawsAre(256, 0, 255, 63);
        // 13 has six of the eight bits, 0 and 63 one each
        lawsAre(2, 0, 128, 13, 0, 0);
        lawsAre(2, 254, 255, 13, 63, 63);
        lawsAre(128, 0, 254, 0, 0);
        lawsAre(128, 1, 255, 0, 63);
        lawsAre(1, 45, 45, Arrays.copyOf(BY_45, 20));
        lawsAre(0, Edges.NONE, Edges.NONE, 0, 1);
        // the last pair of twenty spoils it
        int[] row = Arrays.copyOf(BY_45, 20);
        row[19] = 61;
        lawsAre(0, Edges.NONE, Edges.NONE, row);
    }

    private static void lawsAre(int many, int least, int greatest, int... row) {
        for (int lane = 0; lane <= 2; lane++) {
            Run x = Run.fresh().row(1, lane, row);
            x.asks(many, "laws", 1, lane, 0, row.length, 0).asks(least, "laws", 1, lane, 0, row.length, 1);
            x.asks(greatest, "laws", 1, lane, 0, row.length, 2);
        }
    }

    // ---- 12 comes

    static void comesTheEnds() {
        Edges.promise(12, "COMES to v (0 .. 63); NONE.");
        Run x = Run.of("g170;b001;b771;h014");
        x.asks(0, "comes", 0, 0).asks(Edges.NONE, "comes", 0, 63).asks(0, "comes", 1, 63).asks(Edges.NONE, "comes", 1, 0);
        // by 8 a DAY, so by 2 on the ring
        x.asks(0, "comes", 2, 1).asks(1, "comes", 2, 4).asks(2, "comes", 2, 16).asks(Edges.NONE, "comes", 2, 2);
    }

    static void comesUnknown() {
        Edges.promise(12, "UNKNOWN");
        Run.busy().refusesAround(Edges.UNKNOWN, 0, 2, 0, "comes", 0, 0);
        Run.of(SIX).refusesAround(Edges.UNKNOWN, 0, 5, 0, "comes", 0, 63);
        Run.busy().refuses(Edges.UNKNOWN, "comes", 3, 64).refuses(Edges.UNKNOWN, "comes", -1, -1);
    }

    static void comesOutside() {
        Edges.promise(12, "OUTSIDE.");
        Run.busy().refusesAround(Edges.OUTSIDE, 0, 63, 1, "comes", 0, 0);
    }

    // ---- 13 strokes

    static void strokesTheEnds() {
        Edges.promise(13, "STROKES to v (0 .. 63), as a set; NONE.");
        Run x = Run.of("g204;b001;b771");
        x.asks(0, "strokes", 0, 0).asks(63, "strokes", 0, 63).asks(63, "strokes", 1, 0).asks(0, "strokes", 1, 63);
        x.asks(1, "strokes", 0, 1).asks(32, "strokes", 0, 32).asks(62, "strokes", 1, 1).asks(31, "strokes", 1, 32);
    }

    static void strokesUnknown() {
        Edges.promise(13, "UNKNOWN");
        Run.busy().refusesAround(Edges.UNKNOWN, 0, 2, 0, "strokes", 0, 0);
        Run.of(SIX).refusesAround(Edges.UNKNOWN, 0, 5, 0, "strokes", 0, 63);
        Run.busy().refuses(Edges.UNKNOWN, "strokes", 3, 64).refuses(Edges.UNKNOWN, "strokes", -1, -1);
    }

    static void strokesOutside() {
        Edges.promise(13, "OUTSIDE.");
        Run.busy().refusesAround(Edges.OUTSIDE, 0, 63, 1, "strokes", 0, 0);
    }

    // ---- 14 round

    static void roundTheEnds() {
        Edges.promise(14, "ROUND of a SHAPE (0 .. 63): behind how many STEPS (what 0), by how many (1).");
        Run x = Run.of("g000;h014");
        x.asks(0, "round", 0, 0).asks(1, "round", 0, 1).asks(1, "round", 63, 0).asks(1, "round", 63, 1);
        // of STEPS, whatever a BLOCK GOES
        x.does("enact", 170).asks(0, "round", 1, 0).asks(6, "round", 1, 1).asks(2, "round", 21, 1).asks(3, "round", 9, 1);
    }

    static void roundOutside() {
        Edges.promise(14, "OUTSIDE");
        for (Run x : new Run[] {Run.busy(), Run.fresh()}) {
            x.refusesAround(Edges.OUTSIDE, 0, 63, 0, "round", 0, 0).refusesAround(Edges.OUTSIDE, 0, 63, 0, "round", 0, 1);
            x.refusesAround(Edges.OUTSIDE, 0, 1, 1, "round", 0, 0).refusesAround(Edges.OUTSIDE, 0, 1, 1, "round", 63, 0);
        }
    }

    static void roundState() {
        Edges.promise(14, "STATE: there is no GARDEN.");
        Run.fresh().refuses(Edges.STATE, "round", 0, 0).refuses(Edges.STATE, "round", 63, 1);
    }

    // ---- 15 eden

    static void edenTheEnds() {
        Edges.promise(15, "EDEN of v (0 .. 63): all of them, as a set.");
        Run x = Run.of("g204;b001");
        x.asks(1L, "eden", 0).asks(2L, "eden", 1).asks(1L << 31, "eden", 31).asks(1L << 62, "eden", 62);
        x.asks(1L << 63, "eden", 63);
        // by 1 only cells with none beside them are set: but 0, none of the SHAPES becomes 63
        x.does("enact", 1).asks(1L, "eden", 63);
    }

    static void edenOutside() {
        Edges.promise(15, "LOST: OUTSIDE");
        Run x = Run.busy();
        for (int v : new int[] {-1, 64, Edges.MIN, Edges.MAX}) {
            x.refuses(Edges.LOST, "eden", v);
            Run.fresh().refuses(Edges.LOST, "eden", v);
        }
    }

    static void edenState() {
        Edges.promise(15, "STATE: there is no GARDEN.");
        Run.fresh().refuses(Edges.LOST, "eden", 0).refuses(Edges.LOST, "eden", 1).refuses(Edges.LOST, "eden", 63);
    }

    // ---- 16 alike

    static void alikeOrNot() {
        Edges.promise(16, "ALIKE; NONE.");
        Run x = Run.of("g170;b011;b011;b011;b011;b011;n021");
        x.asks(0, "alike", 0, 4).asks(5, "alike", 0, 5).asks(5, "alike", 5, 0);
        x.does("stroke", 4, 0).asks(Edges.NONE, "alike", 4, 0).asks(Edges.NONE, "alike", 0, 4);
    }

    static void alikeUnknown() {
        Edges.promise(16, "UNKNOWN: either, both the same.");
        Run x = Run.busy();
        x.refusesAround(Edges.UNKNOWN, 1, 2, 0, "alike", 1, 0).refusesAround(Edges.UNKNOWN, 1, 2, 1, "alike", 0, 1);
        x.refusesAround(Edges.UNKNOWN, 0, 1, 0, "alike", 0, 2).refusesAround(Edges.UNKNOWN, 0, 1, 1, "alike", 2, 0);
        for (int k : new int[] {0, 1, 2, 3, -1, Edges.MIN, Edges.MAX}) {
            x.refuses(Edges.UNKNOWN, "alike", k, k);
        }
        x.refuses(Edges.UNKNOWN, "alike", 3, 0).refuses(Edges.UNKNOWN, "alike", 0, 3).refuses(Edges.UNKNOWN, "alike", -1, 3);
    }

    // ---- 17 laws

    static void lawsByCells() {
        Edges.promise(17, "LAWS by n cells of a SHEET from i on: how many (what 0), the least (1), the greatest (2);"
            + " NONE (of 1, 2): there are none.");
        int[] cells = new int[60];
        System.arraycopy(BY_45, 0, cells, 40, 20);
        Run full = Run.fresh().row(3, Edges.BYTES, cells);
        full.asks(1, "laws", 3, Edges.BYTES, 40, 20, 0).asks(45, "laws", 3, Edges.BYTES, 40, 20, 1);
        full.asks(128, "laws", 3, Edges.BYTES, 0, 20, 0).asks(256, "laws", 3, Edges.BYTES, 59, 1, 0);
        full.asks(256, "laws", 3, Edges.BYTES, 60, 0, 0).asks(0, "laws", 3, Edges.BYTES, 60, 0, 1);
        full.asks(255, "laws", 3, Edges.BYTES, 60, 0, 2).asks(0, "laws", 3, Edges.BYTES, 39, 2, 0);
        full.asks(Edges.NONE, "laws", 3, Edges.BYTES, 39, 2, 1).asks(Edges.NONE, "laws", 3, Edges.BYTES, 39, 2, 2);
    }

    static void lawsUnknown() {
        Edges.promise(17, "UNKNOWN: SHEET");
        Run.busy().row(3, Edges.INTS, 1, 2).refusesAround(Edges.UNKNOWN, 0, 3, 0, "laws", 3, Edges.INTS, 0, 2, 0);
        Run.busy().refuses(Edges.UNKNOWN, "laws", 4, 3, 0, 21, 3).refuses(Edges.UNKNOWN, "laws", -1, -1, -1, -1, -1);
    }

    static void lawsOutside() {
        Edges.promise(17, "OUTSIDE: lane, n (0 .. 20), what");
        Run x = Run.busy().row(3, Edges.INTS, new int[20]);
        x.refusesAround(Edges.OUTSIDE, 0, 2, 1, "laws", 3, Edges.INTS, 0, 2, 0);
        x.refusesAround(Edges.OUTSIDE, 0, 20, 3, "laws", 3, Edges.INTS, 0, 2, 0);
        x.refusesAround(Edges.OUTSIDE, 0, 2, 4, "laws", 3, Edges.INTS, 0, 2, 0);
        // ahead of each FAULT
        x.refuses(Edges.OUTSIDE, "laws", 3, Edges.BYTES, 0, 21, 0).refuses(Edges.OUTSIDE, "laws", 3, Edges.BYTES, 0, 1, 3);
        x.does("lose", 3).refuses(Edges.OUTSIDE, "laws", 3, 3, 0, 1, 0).refuses(Edges.OUTSIDE, "laws", 3, 2, 0, -1, 0);
        x.refuses(Edges.OUTSIDE, "laws", 1, Edges.SHORTS, 4, 21, 0).refuses(Edges.OUTSIDE, "laws", 1, Edges.SHORTS, 4, 1, -1);
    }

    static void lawsCast() {
        Edges.promise(17, "FAULTS CAST");
        for (int is = 0; is <= 2; is++) {
            for (int lane = 0; lane <= 2; lane++) {
                Run x = Run.busy().row(3, is, 0, 64);
                if (is == lane) {
                    x.asks(256, "laws", 3, lane, 0, 1, 0);
                } else {
                    x.faults(Edges.CAST, "laws", 3, lane, 0, 2, 0).faults(Edges.CAST, "laws", 3, lane, 3, 20, 0);
                    x.faults(Edges.CAST, "laws", 3, lane, 0, 0, 0);
                }
            }
        }
    }

    static void lawsNull() {
        Edges.promise(17, "NULL");
        for (int lane = 0; lane <= 2; lane++) {
            Run.busy().faults(Edges.NULL, "laws", 3, lane, 0, 0, 0).faults(Edges.NULL, "laws", 3, lane, -1, 20, 2);
        }
    }

    static void lawsIndex() {
        Edges.promise(17, "INDEX");
        Run x = Run.busy().row(3, Edges.INTS, 0, 64, 0, 0);
        int[][] wrong = {{0, 5}, {1, 4}, {3, 2}, {4, 1}, {-1, 1}, {-1, 4}, {0, 20}, {Edges.MAX, 1}, {Edges.MAX, 20},
            {Edges.MIN, 1}, {Edges.MIN, 20}};
        for (int[] w : wrong) {
            x.faults(Edges.INDEX, "laws", 3, Edges.INTS, w[0], w[1], 0);
        }
        x.faultsAround(Edges.INDEX, 0, 4, 2, "laws", 3, Edges.INTS, 0, 0, 0);
        x.asks(256, "laws", 3, Edges.INTS, 3, 1, 0).asks(128, "laws", 3, Edges.INTS, 2, 2, 0);
    }

    static void lawsOfNoShape() {
        Edges.promise(17, "OUTSIDE: a cell is no SHAPE.");
        for (int v : new int[] {-1, 64, 127, -128, Edges.MIN, Edges.MAX, 256}) {
            Run x = Run.busy().row(3, Edges.INTS, 0, v, 63);
            for (int what = 0; what <= 2; what++) {
                x.refuses(Edges.OUTSIDE, "laws", 3, Edges.INTS, 0, 2, what);
                x.refuses(Edges.OUTSIDE, "laws", 3, Edges.INTS, 1, 1, what);
                x.refuses(Edges.OUTSIDE, "laws", 3, Edges.INTS, 1, 2, what);
            }
            // those that are not taken may be any
            x.asks(256, "laws", 3, Edges.INTS, 0, 1, 0).asks(256, "laws", 3, Edges.INTS, 2, 1, 0);
            x.asks(256, "laws", 3, Edges.INTS, 1, 0, 0);
        }
        Run.fresh().row(3, Edges.BYTES, 256).asks(256, "laws", 3, Edges.BYTES, 0, 1, 0);
        // no SHAPE goes ahead of there being no LAW
        Run.fresh().row(3, Edges.INTS, 0, 1, 64).refuses(Edges.OUTSIDE, "laws", 3, Edges.INTS, 0, 3, 0);
    }
}
