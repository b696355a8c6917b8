/** TELLING of part 5 of "Terms", and promises 29 to 34: tell, sign, as, trace, fault, many. */
final class EdgesOfParts {
    private static final String SIX = "g170;b011;n021;h041;b104;n204;h404";

    // ---- what TELLING is

    static void traceWraps() {
        Edges.terms("TELLING of BLOCKS by bodies that leave their number in TRACE"
            + " (an int that wraps, 0 at first, becomes 31 times it and the number) as they begin", 29, 30, 32);
        Run x = Run.of("g000;b001").asks(0, "trace");
        // 31 times 118333824 and 4 is 3668348548, beyond the greatest int; 31 times that is beyond the least one
        int[] traces = {4, 128, 3972, 123136, 3817220, 118333824, -626618748, 2049655296};
        for (int trace : traces) {
            x.due(0, "sign", 0).asks(trace, "trace");
        }
    }

    static void tellings() {
        Edges.terms("BUST (1): PACE. NYMPH (2): what BUST's gives, and 100."
            + " HORSE (3): what NYMPH's gives, and what BUST's gives (NYMPH's left out).", 29);
        Run.of("g000;b001").due(1, "tell", 0).asks(1, "trace");
        Run.of("g000;b004").due(4, "tell", 0).asks(1, "trace");
        Run.of("g000;n001").due(101, "tell", 0).asks(31 * 2 + 1, "trace");
        Run.of("g000;n004").due(104, "tell", 0).asks(31 * 2 + 1, "trace");
        Run.of("g000;h001").due(102, "tell", 0).asks(31 * (31 * (31 * 3 + 2) + 1) + 1, "trace");
        Run.of("g000;h004").due(108, "tell", 0).asks(31 * (31 * (31 * 3 + 2) + 1) + 1, "trace");
    }

    static void signed() {
        Edges.terms("SIGNED by a lent body (4): its number; HORSES have their own (5): 40.", 30);
        Run x = Run.of(SIX);
        x.due(0, "sign", 0).asks(4, "trace").due(1, "sign", 1).asks(31 * 4 + 4, "trace");
        x.due(40, "sign", 2).asks(31 * 128 + 5, "trace").due(40, "sign", 5).asks(31 * 3973 + 5, "trace");
    }

    // ---- 29 tell

    static void tellABlock() {
        Edges.promise(29, "TELLING of a BLOCK.");
        Run x = Run.of(SIX).does("look", 0);
        x.due(1, "tell", 0).due(101, "tell", 1).due(102, "tell", 2).due(4, "tell", 3).due(104, "tell", 4).due(108, "tell", 5);
        x.does("hurry", 5, 1).due(102, "tell", 5).asks(1, "many", 3).asks(0, "many", 2);
    }

    static void tellUnknown() {
        Edges.promise(29, "UNKNOWN.");
        Run.busy().refusesAround(Edges.UNKNOWN, 0, 2, 0, "tell", 0);
        Run.of(SIX).refusesAround(Edges.UNKNOWN, 0, 5, 0, "tell", 0);
    }

    // ---- 30 sign

    static void signABlock() {
        Edges.promise(30, "How it is SIGNED.");
        Run x = Run.of(SIX);
        int[] want = {0, 1, 40, 3, 4, 40};
        for (int k = 0; k < 6; k++) {
            x.due(want[k], "sign", k);
        }
        Run last = Run.of("g000;b001;b001;b001;b001;b001;n001");
        last.due(5, "sign", 5);
    }

    static void signUnknown() {
        Edges.promise(30, "UNKNOWN.");
        Run.busy().refusesAround(Edges.UNKNOWN, 0, 2, 0, "sign", 0);
        Run.of(SIX).refusesAround(Edges.UNKNOWN, 0, 5, 0, "sign", 0);
    }

    // ---- 31 as

    static void asAKind() {
        Edges.promise(31, "A BLOCK, taken as one of a kind: 1.");
        Run x = Run.of(SIX);
        for (int k = 0; k < 6; k++) {
            x.asks(1, "as", k, 0).asks(1, "as", k, k % 3);
        }
    }

    static void asUnknown() {
        Edges.promise(31, "UNKNOWN");
        Run.busy().refusesAround(Edges.UNKNOWN, 0, 2, 0, "as", 0, 0);
        Run.of(SIX).refusesAround(Edges.UNKNOWN, 0, 5, 0, "as", 0, 0);
        Run.busy().refuses(Edges.UNKNOWN, "as", 3, 3).refuses(Edges.UNKNOWN, "as", -1, -1).refuses(Edges.UNKNOWN, "as", 3, 2);
    }

    static void asOutside() {
        Edges.promise(31, "OUTSIDE");
        for (int k = 0; k <= 2; k++) {
            Run.busy().refusesAround(Edges.OUTSIDE, 0, 2, 1, "as", k, 0);
        }
    }

    static void asCast() {
        Edges.promise(31, "CAST: it is none (each is a BUST, too; a HORSE is a NYMPH).");
        Run x = Run.of(SIX);
        for (int k = 0; k < 6; k += 3) {
            x.asks(1, "as", k, 0).faults(Edges.CAST, "as", k, 1).faults(Edges.CAST, "as", k, 2);
            x.asks(1, "as", k + 1, 0).asks(1, "as", k + 1, 1).faults(Edges.CAST, "as", k + 1, 2);
            x.asks(1, "as", k + 2, 0).asks(1, "as", k + 2, 1).asks(1, "as", k + 2, 2);
        }
    }

    // ---- 32 trace

    static void traceStays() {
        Edges.promise(32, "TRACE.");
        Run.fresh().asks(0, "trace");
        Run x = Run.of(SIX).asks(0, "trace").due(1, "tell", 0).asks(1, "trace").asks(1, "trace");
        x.refuses(Edges.UNKNOWN, "tell", 6).refuses(Edges.UNKNOWN, "sign", -1).asks(1, "trace");
        x.does("days", 1).does("as", 2, 1).does("as", 0, 2).does("garden", 0, 0, 0, 34).asks(1, "trace");
        x.due(40, "sign", 2).asks(36, "trace");
    }

    // ---- 33 fault

    static void faultOfTheLatest() {
        Edges.promise(33, "The FAULT of the latest call that names one");
        Run x = Run.busy();
        x.does("put", 3, 0, 0).tellsFault(1).does("as", 0, 1).tellsFault(2).does("put", 1, 3, 0).tellsFault(3);
        x.does("sheet", 1, 1, -1).tellsFault(4).tellsFault(4).does("cell", 1, 3, 1).tellsFault(3);
        // calls that name none leave it, whether or not they are refused
        for (int k : new int[] {0, 9}) {
            x.does("ofBlock", k, 0).does("becomes", 100 * k).does("enact", 100 * k).does("hurry", k, 1);
            x.does("days", 1 - k).does("look", k).does("away", k).does("stroke", k, 0).does("comes", k, 0);
            x.does("strokes", k, 0).does("round", 0, k).does("eden", 100 * k).does("alike", k, 1).does("reading", k, 0, 0);
            x.does("back", 10 * k).does("paces", k).does("kinds", k).does("starts", k).does("odds", k, 0, 0, 0);
            x.does("lose", k).does("tell", k).does("sign", k).does("trace").does("many", k).tellsFault(3);
        }
    }

    static void faultCameToNone() {
        Edges.promise(33, "0: it came to none");
        Run x = Run.busy().does("sheet", 3, 0, -1).tellsFault(4);
        int[][] fine = {{0, 0, 0, 19}, {1, 1, 0, 0, 0}, {1, 1, 0, 1, 0}, {3, 0, 1}, {1, 0, 5}, {1, 0, 1}, {1, 0, 1, 1, 1},
            {2, 2}};
        String[] names = {"garden", "years", "laws", "sheet", "put", "cell", "copy", "as"};
        for (int c = 0; c < names.length; c++) {
            x.does("sheet", 3, 0, -1).does(names[c], fine[c]).tellsFault(0);
        }
        // a FIRST FAULT and a FIRST WRONG are no FAULTS
        x.does("sheet", 3, 0, -1).does("garden", 1, 1, 0, 3).tellsFault(0);
        x.row(3, 0, 0, 2).does("sheet", 3, 0, -1).does("years", 3, 0, 0, 1, 0).tellsFault(0);
    }

    static void faultWasRefused() {
        Edges.promise(33, "or was refused");
        Run x = Run.busy();
        int[][] refused = {{4, 0, 0, 19}, {0, 3, 0, 19}, {4, 1, 0, 0, 0}, {1, 1, 0, 0, 5}, {1, 1, 0, 1, 0}, {4, 1, 0, 1, 0},
            {1, 1, 1, 1, 0}, {4, 0, 1}, {3, 0, 61}, {4, 0, 5}, {4, 0, 1}, {1, 0, 3}, {4, 0, 1, 1, 1}, {9, 0}, {0, 3}};
        String[] names = {"garden", "garden", "years", "years", "years", "laws", "laws", "sheet", "sheet", "put", "cell",
            "cell", "copy", "as", "as"};
        for (int c = 0; c < names.length; c++) {
            x.does("sheet", 3, 0, -1).tellsFault(4).does(names[c], refused[c]).tellsFault(0);
        }
        Run none = Run.fresh().row(0, 0).does("sheet", 3, 0, -1).does("years", 0, 0, 0, 0, 0).tellsFault(0);
        none.refuses(Edges.STATE, "years", 0, 0, 0, 0, 0);
    }

    static void faultAheadOfAny() {
        Edges.promise(33, "(0 ahead of any).");
        Edges.due("fault() of a new object", new MarbleGarden().fault(), 0);
        MarbleGarden x = new MarbleGarden();
        x.days(0);
        x.lose(0);
        Edges.due("fault() ahead of any that names one", x.fault(), 0);
    }

    // ---- 34 many

    static void manyWhat() {
        Edges.promise(34, "How many: 0 BLOCKS, 1 LAW, 2 which DAY it is, 3 BLOCKS at which one LOOKS, 4 READINGS");
        Run one = Run.of("g000;b001").asks(1, "many", 0).asks(0, "many", 1).asks(0, "many", 2).asks(0, "many", 3);
        one.asks(0, "many", 4).does("days", 1).asks(1, "many", 2);
        Run six = Run.of(SIX).does("enact", 255).does("days", 300).does("days", 300);
        for (int k = 0; k < 6; k++) {
            six.does("look", k);
        }
        for (int r = 0; r < 8; r++) {
            six.does("reading", 0, 0, 0);
        }
        six.asks(6, "many", 0).asks(255, "many", 1).asks(600, "many", 2).asks(6, "many", 3).asks(8, "many", 4);
    }

    static void manyWithoutAGarden() {
        Edges.promise(34, "(0 all without a GARDEN).");
        Run x = Run.fresh().text(0, Edges.BYTES, "g255;b77").does("garden", 0, 0, 0, 8).does("enact", 9).does("days", 1);
        for (int what = 0; what <= 4; what++) {
            Run.fresh().asks(0, "many", what);
            x.asks(0, "many", what);
        }
    }

    static void manyOutside() {
        Edges.promise(34, "OUTSIDE.");
        Run.busy().refusesAround(Edges.OUTSIDE, 0, 4, 0, "many", 0);
        Run.fresh().refusesAround(Edges.OUTSIDE, 0, 4, 0, "many", 0);
    }
}
