/** Sentences of "Terms" that hold for many calls, and of "What it is". */
final class EdgesOfTerms {
    static void refusalsGoInTheirOrder() {
        Edges.terms("REFUSALS, in the order in which a call's line tells them", 4, 6, 11, 14, 18);
        Run.busy().refuses(Edges.UNKNOWN, "hurry", 3, 0).refuses(Edges.OUTSIDE, "hurry", 2, 0);
        Run.fresh().refuses(Edges.OUTSIDE, "becomes", 64).refuses(Edges.STATE, "becomes", 63);
        Run.fresh().refuses(Edges.OUTSIDE, "round", 0, 2).refuses(Edges.STATE, "round", 0, 1);
        Run full = Run.of("g204;b001");
        for (int r = 0; r < 8; r++) {
            full.does("reading", 0, 0, 0);
        }
        full.refuses(Edges.UNKNOWN, "reading", 1, 100, 64).refuses(Edges.OUTSIDE, "reading", 0, 100, 0);
        full.refuses(Edges.FULL, "reading", 0, 99, 63);
        // here the line tells STATE ahead of the OUTSIDE and UNKNOWN of pairs
        Run.fresh().row(0, Edges.INTS, 100, 0).refuses(Edges.STATE, "years", 0, Edges.INTS, 0, 1, 0);
        Run.fresh().row(0, Edges.INTS, 100, 1).refuses(Edges.STATE, "years", 0, Edges.INTS, 0, 1, 0);
    }

    static void unknown() {
        Edges.terms("UNKNOWN (there is no such BLOCK, SHEET, place of a row)", 3, 25);
        Edges.due("UNKNOWN", MarbleGarden.UNKNOWN, -1);
        Run.busy().refusesAround(-1, 0, 2, 0, "ofBlock", 0, 0);
        Run.busy().refusesAround(-1, 0, 3, 0, "lose", 0);
    }

    static void outside() {
        Edges.terms("OUTSIDE (another number is not as told)", 5);
        Edges.due("OUTSIDE", MarbleGarden.OUTSIDE, -2);
        Run.busy().refusesAround(-2, 0, 255, 0, "enact", 0);
    }

    static void state() {
        Edges.terms("STATE (as told)", 8);
        Edges.due("STATE", MarbleGarden.STATE, -3);
        Run.busy().refuses(-3, "look", 1);
    }

    static void full() {
        Edges.terms("FULL", 18);
        Edges.due("FULL", MarbleGarden.FULL, -4);
        Run x = Run.busy();
        for (int r = 2; r < 8; r++) {
            x.due(r, "reading", 0, 99, 63);
        }
        x.refuses(-4, "reading", 0, 99, 63);
    }

    static void refusalsChangeNothing() {
        Edges.terms("they change nothing (but fault(), of a call that names FAULTS)", 2, 3, 4, 5, 6, 7, 8, 9, 10, 11, 12,
            13, 14, 15, 16, 17, 18, 19, 20, 21, 22, 23, 24, 25, 26, 27, 28, 29, 30, 31, 34);
        Run x = Run.busy();
        x.refuses(-1, "garden", 4, 0, 0, 19).refuses(-2, "garden", 0, 3, 0, 19).refuses(-118, "garden", 0, 0, 0, 18);
        x.refuses(-1, "ofBlock", 3, 1).refuses(-2, "becomes", 64).refuses(-2, "enact", 256).refuses(-2, "hurry", 0, 5);
        x.refuses(-2, "days", 301).refuses(-3, "look", 1).refuses(-3, "away", 0).refuses(-2, "stroke", 0, 6);
        x.refuses(-1, "years", 4, 1, 0, 1, 0).refuses(-2, "years", 1, 1, 0, 1, 5).refuses(-2, "years", 1, 1, 0, 1, 0);
        x.refuses(-2, "comes", 0, 64).refuses(-2, "strokes", 0, 64).refuses(-2, "round", 64, 0);
        x.refuses(Edges.LOST, "eden", 64).refuses(-1, "alike", 0, 0).refuses(-2, "laws", 1, 1, 0, 3, 0);
        x.refuses(-2, "reading", 0, 100, 0).refuses(-2, "back", 3).refuses(-1, "paces", 3).refuses(-1, "kinds", 3);
        x.refuses(0, "starts", 3).refuses(Edges.LOST, "odds", 3, 0, 0, 0).refuses(-2, "sheet", 1, 1, 61);
        x.refuses(-1, "lose", 4).refuses(-1, "put", 4, 0, 9).refuses(Edges.LOST, "cell", 1, 0, 3);
        x.refuses(-1, "copy", 1, 0, 4, 0, 3).refuses(-1, "tell", 3).refuses(-1, "sign", 3).refuses(-2, "as", 0, 3);
        x.refuses(-2, "many", 5);
    }

    static void faultsHaveNumbers() {
        Edges.terms("FAULTS are the machine's: 1 NULL (there is nothing), 2 CAST (it is of another lane, kind), 3 INDEX",
            2, 11, 17, 24, 26, 27, 28, 31);
        Run x = Run.busy();
        x.faults(1, "garden", 3, 0, 0, 0).faults(1, "years", 3, 0, 0, 0, 0).faults(1, "laws", 3, 0, 0, 0, 0);
        x.faults(1, "put", 3, 0, 0).faults(1, "cell", 3, 0, 0).faults(1, "copy", 3, 0, 1, 0, 0);
        x.faults(2, "garden", 1, 0, 0, 0).faults(2, "years", 1, 0, 0, 0, 0).faults(2, "laws", 1, 0, 0, 0, 0);
        x.faults(2, "cell", 1, 0, 0).faults(2, "copy", 1, 0, 2, 0, 0).faults(2, "as", 0, 1);
        x.faults(3, "garden", 1, 1, 3, 1).faults(3, "years", 1, 1, 2, 1, 0).faults(3, "laws", 1, 1, 3, 1, 0);
        x.faults(3, "put", 1, 3, 0).faults(3, "cell", 1, 3, 1).faults(3, "copy", 1, 3, 1, 0, 1);
    }

    static void sizeIsALengthBelowNone() {
        Edges.terms("4 SIZE (a length below 0)", 2, 24);
        Run x = Run.busy();
        x.faults(4, "garden", 1, 1, 0, -1).faults(4, "garden", 1, 1, 0, Edges.MIN);
        x.faults(4, "sheet", 1, 1, -1).faults(4, "sheet", 3, 2, Edges.MIN);
        x.asks(-100, "garden", 1, 1, 0, 0).due(1, "sheet", 1, 1, 0);
    }

    static void indexWhereNoCellIsTaken() {
        Edges.terms("(of cells from i on also where i is not 0 .. how many there are, if none of them is taken, too)",
            2, 11, 17, 28);
        Run x = Run.busy();
        x.faultsAround(Edges.INDEX, 0, 3, 2, "garden", 1, Edges.SHORTS, 0, 0);
        x.faultsAround(Edges.INDEX, 0, 3, 2, "years", 1, Edges.SHORTS, 0, 0, 0);
        x.faultsAround(Edges.INDEX, 0, 3, 2, "laws", 1, Edges.SHORTS, 0, 0, 0);
        x.faultsAround(Edges.INDEX, 0, 3, 1, "copy", 1, 0, 1, 0, 0);
        x.faultsAround(Edges.INDEX, 0, 3, 3, "copy", 1, 0, 1, 0, 0);
        x.row(3, Edges.BYTES);
        x.faultsAround(Edges.INDEX, 0, 0, 2, "garden", 3, Edges.BYTES, 0, 0);
        x.faultsAround(Edges.INDEX, 0, 0, 2, "years", 3, Edges.BYTES, 0, 0, 0);
        x.faultsAround(Edges.INDEX, 0, 0, 2, "laws", 3, Edges.BYTES, 0, 0, 0);
        x.faultsAround(Edges.INDEX, 0, 0, 1, "copy", 3, 0, 3, 0, 0);
        x.faultsAround(Edges.INDEX, 0, 0, 3, "copy", 3, 0, 3, 0, 0);
    }

    static void theFirstFaultIsTold() {
        Edges.terms("Of a call the first that is come to, in the order told", 2, 11, 17, 26, 27, 28);
        Run x = Run.busy();
        x.faults(Edges.CAST, "garden", 1, Edges.INTS, 4, -1).faults(Edges.CAST, "garden", 1, Edges.INTS, 4, 1);
        x.faults(Edges.NULL, "garden", 3, Edges.INTS, 4, -1).faults(Edges.NULL, "garden", 3, Edges.INTS, 4, 1);
        x.faults(Edges.SIZE, "garden", 1, Edges.SHORTS, 4, -1).faults(Edges.SIZE, "garden", 1, Edges.SHORTS, -1, -1);
        x.faults(Edges.CAST, "years", 1, Edges.INTS, 4, 1, 0).faults(Edges.NULL, "years", 3, Edges.INTS, 4, 1, 0);
        x.faults(Edges.CAST, "laws", 1, Edges.INTS, 4, 1, 0).faults(Edges.NULL, "laws", 3, Edges.INTS, 4, 1, 0);
        x.faults(Edges.NULL, "put", 3, -1, 0);
        x.faults(Edges.CAST, "cell", 1, 4, Edges.INTS).faults(Edges.NULL, "cell", 3, 4, Edges.INTS);
        x.faults(Edges.NULL, "copy", 3, -1, 1, 0, 0).faults(Edges.NULL, "copy", 1, -1, 3, 0, 0);
        x.faults(Edges.CAST, "copy", 1, -1, 2, 0, 0).faults(Edges.CAST, "copy", 1, 0, 2, 0, -1);
    }

    static void whatAFaultAnswers() {
        Edges.terms("it answers -10 less it (LOST, where a long is answered, as for refusals) and changes nothing;"
            + " fault() tells it.", 2, 11, 17, 24, 26, 27, 28, 31);
        Run x = Run.busy();
        x.faults(Edges.NULL, "put", 3, 0, 0).faults(Edges.CAST, "as", 1, 2).faults(Edges.INDEX, "put", 1, -1, 0);
        x.faults(Edges.SIZE, "sheet", 2, 0, -1).faults(Edges.SIZE, "garden", 0, 0, 0, -1);
        x.faults(Edges.INDEX, "garden", 0, 0, 0, 20).faults(Edges.INDEX, "years", 1, 1, 0, 2, 0);
        x.faults(Edges.INDEX, "laws", 1, 1, 0, 4, 0).faults(Edges.INDEX, "copy", 1, 0, 1, 1, 3);
        x.faults(Edges.NULL, "cell", 3, 0, 0).faults(Edges.CAST, "cell", 1, 0, 2).faults(Edges.INDEX, "cell", 1, 3, 1);
        x.refuses(Edges.LOST, "cell", 4, 0, 0).refuses(Edges.LOST, "eden", -1).refuses(Edges.LOST, "odds", 3, 0, 0, 0);
        Edges.due("LOST", MarbleGarden.LOST, Long.MIN_VALUE);
    }

    static void none() {
        Edges.terms("NONE is -9.", 11, 12, 16, 17);
        Edges.due("NONE", MarbleGarden.NONE, -9);
        Run x = Run.of("g204;b001;b011").row(1, Edges.BYTES, 0, 1);
        x.asks(-9, "years", 1, Edges.BYTES, 0, 0, 1).asks(-9, "years", 1, Edges.BYTES, 0, 0, 12);
        x.asks(-9, "comes", 0, 1).asks(-9, "alike", 0, 1).asks(-9, "laws", 1, Edges.BYTES, 0, 2, 1);
    }

    static void setsAreBits() {
        Edges.terms("Sets are told as bits (bit k for number k).", 11, 13, 15, 20, 21, 22);
        Run x = Run.of("g204;b001;b001;b001;b001;b001;b001").row(1, Edges.BYTES, 0, 1, 5, 1);
        x.asks(1, "years", 1, Edges.BYTES, 0, 1, 0).asks(32, "years", 1, Edges.BYTES, 2, 1, 0);
        x.asks(1, "strokes", 0, 1).asks(32, "strokes", 0, 32);
        x.asks(1L, "eden", 0).asks(1L << 32, "eden", 32).asks(1L << 62, "eden", 62).asks(1L << 63, "eden", 63);
        x.asks(2 + 4 + 8 + 16, "paces", 0).asks(1 + 2 + 4, "kinds", 0).asks(-1L, "starts", 0);
    }

    static void shares() {
        Edges.terms("Shares are told as upper and lower number (above 0) in least terms.", 23);
        Run x = Run.of("g204;b001");
        x.asks(1, "odds", 0, 1, 5, 0).asks(64, "odds", 0, 1, 5, 1);
        // none: 0 of 1; all: 1 of 1
        x.does("enact", 0).asks(0, "odds", 0, 1, 5, 0).asks(1, "odds", 0, 1, 5, 1);
        x.asks(1, "odds", 0, 1, 0, 0).asks(1, "odds", 0, 1, 0, 1);
        // by 136 a cell stays while the one below it is set: 18 SHAPES have no two beside each other
        x.does("enact", 136).asks(9, "odds", 0, 1, 0, 0).asks(32, "odds", 0, 1, 0, 1);
    }

    static void fiveHundredAndTwelveCalls() {
        Edges.whatItIs("An object is used for at most 512 calls after it has been made");
        Run x = Run.of("g170;b011");
        MarbleGarden y = new MarbleGarden();
        x.asks(1, "ofBlock", 0, 1);
        int[] text = "g170;b011".chars().toArray();
        y.sheet(0, 0, text.length);
        for (int i = 0; i < text.length; i++) {
            y.put(0, i, text[i]);
        }
        y.garden(0, 0, 0, text.length);
        for (int d = 0; d < 500; d++) {
            Edges.due("days(300), call " + (12 + d), y.days(300), 0);
        }
        Edges.due("many(2), call 512", y.many(2), 150000);
    }
}
