/** Promises 1 to 6: a new object, garden, ofBlock, becomes, enact, hurry. */
final class EdgesOfGarden {
    private static final String SIX = "g255;b774;n001;h774;b001;n774;h001";

    // ---- 1 a new object

    static void newNoGarden() {
        Edges.promise(1, "No GARDEN (no BLOCKS)");
        Run x = Run.fresh();
        for (int what = 0; what <= 4; what++) {
            x.asks(0, "many", what);
        }
        for (String name : new String[] {"look", "away", "paces", "kinds", "tell", "sign"}) {
            x.refuses(Edges.UNKNOWN, name, 0);
        }
        for (String name : new String[] {"ofBlock", "hurry", "stroke", "comes", "strokes", "as"}) {
            x.refuses(Edges.UNKNOWN, name, 0, 1);
        }
        x.refuses(Edges.UNKNOWN, "alike", 0, 1).refuses(Edges.UNKNOWN, "reading", 0, 0, 0);
        x.asks(0, "starts", 0).refuses(Edges.LOST, "odds", 0, 0, 0, 0).asks(0, "back", 0);
        x.refuses(Edges.STATE, "becomes", 0).refuses(Edges.STATE, "enact", 0).refuses(Edges.STATE, "days", 1);
        x.refuses(Edges.STATE, "round", 0, 0).refuses(Edges.LOST, "eden", 0);
        x.row(0, Edges.BYTES).refuses(Edges.STATE, "years", 0, Edges.BYTES, 0, 0, 0);
    }

    static void newSheetsHaveNothing() {
        Edges.promise(1, "SHEETS have nothing.");
        Run x = Run.fresh();
        for (int k = 0; k <= 3; k++) {
            x.asks(0, "lose", k).faults(Edges.NULL, "put", k, 0, 0).faults(Edges.NULL, "copy", k, 0, k, 0, 0);
            for (int lane = 0; lane <= 2; lane++) {
                x.faults(Edges.NULL, "cell", k, 0, lane).faults(Edges.NULL, "garden", k, lane, 0, 0);
                x.faults(Edges.NULL, "years", k, lane, 0, 0, 0).faults(Edges.NULL, "laws", k, lane, 0, 0, 0);
            }
        }
    }

    // ---- 2 garden

    static void gardenByCellsOfASheet() {
        Edges.promise(2, "A GARDEN by a TEXT of n cells of a SHEET from i on, taken as a row of a LANE: how many BLOCKS");
        for (int lane = 0; lane <= 2; lane++) {
            Run full = Run.fresh().text(3, lane, "x".repeat(26) + SIX);
            full.due(6, "garden", 3, lane, 26, 34).asks(6, "many", 0).asks(255, "many", 1).asks(1, "ofBlock", 5, 2);
            Run ahead = Run.fresh().text(0, lane, "g000;b001" + "x".repeat(51));
            ahead.due(1, "garden", 0, lane, 0, 9).asks(1, "many", 0).asks(0, "many", 1);
        }
    }

    static void gardenFirstFault() {
        Edges.promise(2, "-100 less the FIRST FAULT.");
        Run x = Run.busy().text(3, Edges.SHORTS, "xg030;b011;n12xx");
        x.refuses(-100, "garden", 3, Edges.SHORTS, 0, 16).refuses(-100, "garden", 3, Edges.SHORTS, 16, 0);
        x.refuses(-101, "garden", 3, Edges.SHORTS, 1, 1).refuses(-108, "garden", 3, Edges.SHORTS, 1, 8);
        x.refuses(-113, "garden", 3, Edges.SHORTS, 1, 13).refuses(-113, "garden", 3, Edges.SHORTS, 1, 14);
        x.due(1, "garden", 3, Edges.SHORTS, 1, 9);
        Run.busy().text(3, Edges.INTS, SIX + ";".repeat(26)).refuses(-134, "garden", 3, Edges.INTS, 0, 60);
    }

    static void gardenUnknown() {
        Edges.promise(2, "UNKNOWN");
        Run.busy().refusesAround(Edges.UNKNOWN, 0, 3, 0, "garden", 0, Edges.BYTES, 0, 19);
        Run.busy().refuses(Edges.UNKNOWN, "garden", 4, 3, -1, -1).refuses(Edges.UNKNOWN, "garden", -1, -1, 99, 99);
    }

    static void gardenOutside() {
        Edges.promise(2, "OUTSIDE: lane");
        Run.busy().refusesAround(Edges.OUTSIDE, 0, 2, 1, "garden", 0, Edges.BYTES, 0, 19);
        Run.busy().refusesAround(Edges.OUTSIDE, 0, 2, 1, "garden", 3, Edges.BYTES, -1, -1);
    }

    static void gardenCast() {
        Edges.promise(2, "FAULTS CAST (nothing is no CAST)");
        for (int is = 0; is <= 2; is++) {
            for (int lane = 0; lane <= 2; lane++) {
                Run x = Run.busy().text(3, is, "g000;b001");
                if (is == lane) {
                    x.due(1, "garden", 3, lane, 0, 9);
                } else {
                    x.faults(Edges.CAST, "garden", 3, lane, 0, 9).faults(Edges.CAST, "garden", 3, lane, 10, -1);
                    x.faults(Edges.CAST, "garden", 3, lane, 0, 0);
                }
            }
            Run.busy().faults(Edges.NULL, "garden", 3, is, 0, 9);
        }
        Run.busy().row(3, Edges.BYTES).faults(Edges.CAST, "garden", 3, Edges.INTS, 0, 0);
    }

    static void gardenNull() {
        Edges.promise(2, "NULL");
        Run.busy().faults(Edges.NULL, "garden", 3, Edges.BYTES, 0, 0).faults(Edges.NULL, "garden", 3, Edges.INTS, -1, -1);
        Run.busy().does("lose", 0).faults(Edges.NULL, "garden", 0, Edges.BYTES, 0, 19);
    }

    static void gardenSize() {
        Edges.promise(2, "SIZE: n is below 0");
        Run x = Run.busy();
        x.faults(Edges.SIZE, "garden", 0, Edges.BYTES, 0, -1).faults(Edges.SIZE, "garden", 0, Edges.BYTES, 0, Edges.MIN);
        x.faults(Edges.SIZE, "garden", 0, Edges.BYTES, -1, -1).faults(Edges.SIZE, "garden", 0, Edges.BYTES, 20, -1);
        x.faults(Edges.SIZE, "garden", 0, Edges.BYTES, Edges.MAX, Edges.MIN).refuses(-100, "garden", 0, Edges.BYTES, 0, 0);
    }

    static void gardenIndex() {
        Edges.promise(2, "INDEX: not all cells are there");
        Run x = Run.busy();
        int[][] wrong = {{0, 20}, {1, 19}, {18, 2}, {19, 1}, {-1, 19}, {-1, 1}, {-19, 19}, {0, Edges.MAX}, {1, Edges.MAX},
            {19, Edges.MAX}, {Edges.MAX, 1}, {Edges.MAX, Edges.MAX}, {Edges.MIN, 1}, {Edges.MIN, Edges.MAX}};
        for (int[] w : wrong) {
            x.faults(Edges.INDEX, "garden", 0, Edges.BYTES, w[0], w[1]);
        }
        x.refuses(-100, "garden", 0, Edges.BYTES, 18, 1).refuses(-100, "garden", 0, Edges.BYTES, 1, 18);
        x.due(3, "garden", 0, Edges.BYTES, 0, 19);
    }

    static void gardenFirstFaultGoesLast() {
        Edges.promise(2, "-100 less it.");
        Run x = Run.busy().text(3, Edges.BYTES, "xx");
        x.refuses(Edges.UNKNOWN, "garden", 4, Edges.BYTES, 0, 2).refuses(Edges.OUTSIDE, "garden", 3, 3, 0, 2);
        x.faults(Edges.CAST, "garden", 3, Edges.INTS, 0, 2).faults(Edges.SIZE, "garden", 3, Edges.BYTES, 0, -1);
        x.faults(Edges.INDEX, "garden", 3, Edges.BYTES, 0, 3).refuses(-100, "garden", 3, Edges.BYTES, 0, 2);
    }

    // ---- 3 ofBlock

    static void ofBlockWhat() {
        Edges.promise(3, "Of a BLOCK: 0 kind, 1 SHAPE, 2 PACE, 3 how many STEPS it GOES, 4 whether one LOOKS at it (1, 0),"
            + " 5 how many of its cells are set.");
        Run x = Run.of(SIX).does("look", 0).does("look", 5);
        int[][] want = {{0, 63, 4, 4, 1, 6}, {1, 0, 1, 2, 0, 0}, {2, 63, 4, 8, 0, 6}, {0, 0, 1, 1, 0, 0},
            {1, 63, 4, 5, 0, 6}, {2, 0, 1, 2, 1, 0}};
        for (int k = 0; k < 6; k++) {
            for (int what = 0; what <= 5; what++) {
                x.asks(want[k][what], "ofBlock", k, what);
            }
        }
        x.does("away", 0).asks(0, "ofBlock", 0, 4).asks(1, "ofBlock", 5, 4);
    }

    static void ofBlockUnknown() {
        Edges.promise(3, "UNKNOWN");
        Run.of("g000;b001").refusesAround(Edges.UNKNOWN, 0, 0, 0, "ofBlock", 0, 0);
        Run.of(SIX).refusesAround(Edges.UNKNOWN, 0, 5, 0, "ofBlock", 0, 5);
        Run.busy().refuses(Edges.UNKNOWN, "ofBlock", 3, 6).refuses(Edges.UNKNOWN, "ofBlock", -1, -1);
    }

    static void ofBlockOutside() {
        Edges.promise(3, "OUTSIDE.");
        Run.busy().refusesAround(Edges.OUTSIDE, 0, 5, 1, "ofBlock", 0, 0);
    }

    // ---- 4 becomes

    static void becomesByAStep() {
        Edges.promise(4, "What a SHAPE (0 .. 63) becomes by one STEP.");
        Run x = Run.of("g001;b001");
        x.asks(63, "becomes", 0).asks(0, "becomes", 63).does("enact", 128).asks(0, "becomes", 0).asks(63, "becomes", 63);
        x.asks(0, "becomes", 3).asks(2, "becomes", 7).asks(1, "becomes", 35).asks(32, "becomes", 49);
        // one STEP, however many a BLOCK GOES, and whether or not one LOOKS
        Run.of("g170;h014").does("look", 0).asks(2, "becomes", 1).asks(1, "ofBlock", 0, 1);
    }

    static void becomesOutside() {
        Edges.promise(4, "OUTSIDE");
        Run.busy().refusesAround(Edges.OUTSIDE, 0, 63, 0, "becomes", 0);
        Run.fresh().refusesAround(Edges.OUTSIDE, 0, 63, 0, "becomes", 0);
    }

    static void becomesState() {
        Edges.promise(4, "STATE: there is no GARDEN.");
        Run.fresh().refuses(Edges.STATE, "becomes", 0).refuses(Edges.STATE, "becomes", 63);
        Run.fresh().text(0, Edges.BYTES, "g000").does("garden", 0, Edges.BYTES, 0, 4).refuses(Edges.STATE, "becomes", 0);
    }

    // ---- 5 enact

    static void enactTheEnds() {
        Edges.promise(5, "LAW becomes v (0 .. 255): what it was.");
        Run x = Run.of("g030;b771");
        x.due(30, "enact", 255).asks(255, "many", 1).asks(63, "becomes", 0);
        x.due(255, "enact", 0).asks(0, "many", 1).asks(0, "becomes", 63);
        x.due(0, "enact", 0).asks(0, "many", 1).asks(63, "ofBlock", 0, 1).asks(0, "many", 2);
        x.due(1, "days", 1).asks(0, "ofBlock", 0, 1);
        // more than one STEP a DAY goes by the LAW that is, too
        Run.of("g204;h014").due(204, "enact", 170).due(1, "days", 1).asks(4, "ofBlock", 0, 1);
    }

    static void enactOutside() {
        Edges.promise(5, "OUTSIDE");
        Run.busy().refusesAround(Edges.OUTSIDE, 0, 255, 0, "enact", 0);
        Run.fresh().refusesAround(Edges.OUTSIDE, 0, 255, 0, "enact", 0);
    }

    static void enactState() {
        Edges.promise(5, "STATE: there is no GARDEN.");
        Run.fresh().refuses(Edges.STATE, "enact", 0).refuses(Edges.STATE, "enact", 255).asks(0, "many", 1);
    }

    // ---- 6 hurry

    static void hurryTheEnds() {
        Edges.promise(6, "PACE of a BLOCK becomes v (1 .. 4): what it was.");
        Run x = Run.of("g170;b012;n013;h011").does("look", 2);
        x.due(2, "hurry", 0, 4).due(4, "hurry", 0, 1).due(1, "hurry", 0, 1).asks(1, "ofBlock", 0, 2);
        x.due(3, "hurry", 1, 4).asks(5, "ofBlock", 1, 3).due(1, "hurry", 2, 4).asks(8, "ofBlock", 2, 3);
        x.asks(1, "ofBlock", 0, 1).asks(0, "many", 2).asks(1, "many", 3);
    }

    static void hurryUnknown() {
        Edges.promise(6, "UNKNOWN");
        Run.busy().refusesAround(Edges.UNKNOWN, 0, 2, 0, "hurry", 0, 1);
        Run.of(SIX).refusesAround(Edges.UNKNOWN, 0, 5, 0, "hurry", 0, 4);
        Run.busy().refuses(Edges.UNKNOWN, "hurry", 3, 0).refuses(Edges.UNKNOWN, "hurry", -1, 5);
    }

    static void hurryOutside() {
        Edges.promise(6, "OUTSIDE.");
        Run.busy().refusesAround(Edges.OUTSIDE, 1, 4, 1, "hurry", 0, 1);
        Run.busy().refusesAround(Edges.OUTSIDE, 1, 4, 1, "hurry", 2, 1);
    }
}
