/** SHEETS of part 5 of "Terms", and promises 24 to 28: sheet, lose, put, cell, copy. */
final class EdgesOfSheets {
    private static int[] upTo(int n) {
        int[] numbers = new int[n];
        for (int i = 0; i < n; i++) {
            numbers[i] = i + 1;
        }
        return numbers;
    }

    private static void rowIs(Run x, int sheet, int lane, int... want) {
        for (int i = 0; i < want.length; i++) {
            x.asks(want[i], "cell", sheet, i, lane);
        }
        x.faults(Edges.INDEX, "cell", sheet, want.length, lane);
    }

    // ---- what they are

    static void fourSheets() {
        Edges.terms("SHEETS 0 .. 3 have nothing (at first)", 24, 25, 26, 27, 28);
        Run x = Run.fresh();
        x.refusesAround(Edges.UNKNOWN, 0, 3, 0, "lose", 0).refusesAround(Edges.UNKNOWN, 0, 3, 0, "put", 0, 0, 0);
        for (int k = 0; k <= 3; k++) {
            x.asks(0, "lose", k).faults(Edges.NULL, "put", k, 0, 0).faults(Edges.NULL, "cell", k, 0, 0);
        }
        // each is its own
        for (int k = 0; k <= 3; k++) {
            x.row(k, Edges.INTS, k + 10);
        }
        for (int k = 0; k <= 3; k++) {
            x.asks(k + 10, "cell", k, 0, Edges.INTS);
        }
    }

    static void rowsOfNoneToSixty() {
        Edges.terms("or a row of 0 .. 60 numbers (0 at first)", 24);
        for (int lane = 0; lane <= 2; lane++) {
            Run x = Run.fresh().due(1, "sheet", 3, lane, 60);
            rowIs(x, 3, lane, new int[60]);
            x.row(3, lane, upTo(60)).due(1, "sheet", 3, lane, 60);
            rowIs(x, 3, lane, new int[60]);
            x.due(1, "sheet", 3, lane, 0);
            rowIs(x, 3, lane);
            x.faults(Edges.INDEX, "put", 3, 0, 1).due(1, "sheet", 3, lane, 1);
            rowIs(x, 3, lane, 0);
        }
    }

    static void lanes() {
        Edges.terms("of a LANE: 0 bytes, 1 shorts, 2 ints", 24, 27);
        for (int lane = 0; lane <= 2; lane++) {
            Run x = Run.fresh().row(0, lane, Edges.MAX, Edges.MIN);
            for (int as = 0; as <= 2; as++) {
                if (as != lane) {
                    x.faults(Edges.CAST, "cell", 0, 0, as);
                }
            }
            rowIs(x, 0, lane, lane == 2 ? Edges.MAX : -1, lane == 2 ? Edges.MIN : 0);
        }
    }

    static void cutToALane() {
        Edges.terms("what comes to a cell of it is cut to its LANE.", 26, 27, 28);
        int[] values = {0, 1, -1, 127, 128, 129, 255, 256, 257, -127, -128, -129, -256, 32767, 32768, 65535, 65536, -32768,
            -32769, 8388608, Edges.MAX, Edges.MIN};
        int[] bytes = {0, 1, -1, 127, -128, -127, -1, 0, 1, -127, -128, 127, 0, -1, 0, -1, 0, 0, -1, 0, -1, 0};
        int[] shorts = {0, 1, -1, 127, 128, 129, 255, 256, 257, -127, -128, -129, -256, 32767, -32768, -1, 0, -32768, 32767,
            0, -1, 0};
        int[][] want = {bytes, shorts, values};
        for (int lane = 0; lane <= 2; lane++) {
            Run x = Run.fresh().row(0, lane, values).row(1, lane, new int[values.length]);
            rowIs(x, 0, lane, want[lane]);
            x.does("copy", 0, 0, 1, 0, values.length);
            rowIs(x, 1, lane, want[lane]);
        }
    }

    // ---- 24 sheet

    static void sheetGetsARow() {
        Edges.promise(24, "A SHEET gets a new row: 1.");
        Run x = Run.busy();
        x.due(1, "sheet", 0, Edges.INTS, 0).due(1, "sheet", 3, Edges.BYTES, 60).due(1, "sheet", 1, Edges.INTS, 3);
        rowIs(x, 0, Edges.INTS);
        rowIs(x, 1, Edges.INTS, 0, 0, 0);
        rowIs(x, 2, Edges.INTS, 70000, -70000);
        // a new row is not the one that it had, though as long
        x.due(1, "sheet", 2, Edges.INTS, 2);
        rowIs(x, 2, Edges.INTS, 0, 0);
        // nor what a longer one left
        x.row(2, Edges.INTS, 1, 2, 3).due(1, "sheet", 2, Edges.INTS, 1).due(1, "sheet", 2, Edges.INTS, 3);
        rowIs(x, 2, Edges.INTS, 0, 0, 0);
    }

    static void sheetUnknown() {
        Edges.promise(24, "UNKNOWN");
        Run.busy().refusesAround(Edges.UNKNOWN, 0, 3, 0, "sheet", 0, Edges.BYTES, 1);
        Run.busy().refuses(Edges.UNKNOWN, "sheet", 4, 3, 61).refuses(Edges.UNKNOWN, "sheet", -1, 0, -1);
    }

    static void sheetOutside() {
        Edges.promise(24, "OUTSIDE: lane, n above 60");
        Run x = Run.busy();
        x.refusesAround(Edges.OUTSIDE, 0, 2, 1, "sheet", 1, 0, 3);
        for (int n : new int[] {61, 62, 255, 256, Edges.MAX}) {
            x.refuses(Edges.OUTSIDE, "sheet", 1, Edges.SHORTS, n).refuses(Edges.OUTSIDE, "sheet", 3, Edges.SHORTS, n);
        }
        // the lane goes ahead of SIZE
        x.refuses(Edges.OUTSIDE, "sheet", 1, 3, -1).refuses(Edges.OUTSIDE, "sheet", 1, -1, Edges.MIN);
        x.due(1, "sheet", 1, Edges.SHORTS, 60);
    }

    static void sheetSize() {
        Edges.promise(24, "SIZE.");
        Run x = Run.busy();
        for (int n : new int[] {-1, -2, -60, -61, Edges.MIN}) {
            x.faults(Edges.SIZE, "sheet", 1, Edges.SHORTS, n).faults(Edges.SIZE, "sheet", 3, Edges.BYTES, n);
        }
        x.due(1, "sheet", 1, Edges.SHORTS, 0);
    }

    // ---- 25 lose

    static void loseOrNothing() {
        Edges.promise(25, "A SHEET has nothing: 1; 0: it had nothing.");
        Run x = Run.busy().row(3, Edges.BYTES);
        for (int k = 0; k <= 3; k++) {
            x.due(1, "lose", k).asks(0, "lose", k).faults(Edges.NULL, "cell", k, 0, 0).faults(Edges.NULL, "put", k, 0, 0);
        }
        x.due(1, "sheet", 2, Edges.INTS, 2);
        rowIs(x, 2, Edges.INTS, 0, 0);
        x.due(1, "lose", 2);
    }

    static void loseUnknown() {
        Edges.promise(25, "UNKNOWN.");
        Run.busy().refusesAround(Edges.UNKNOWN, 0, 3, 0, "lose", 0);
    }

    // ---- 26 put

    static void putACell() {
        Edges.promise(26, "Cell i of a SHEET becomes v: 1.");
        Run x = Run.fresh().row(3, Edges.INTS, new int[60]);
        x.due(1, "put", 3, 0, Edges.MIN).due(1, "put", 3, 59, Edges.MAX);
        x.asks(Edges.MIN, "cell", 3, 0, Edges.INTS).asks(0, "cell", 3, 1, Edges.INTS).asks(0, "cell", 3, 58, Edges.INTS);
        x.asks(Edges.MAX, "cell", 3, 59, Edges.INTS).due(1, "put", 3, 0, 0).asks(0, "cell", 3, 0, Edges.INTS);
    }

    static void putUnknown() {
        Edges.promise(26, "UNKNOWN");
        Run.busy().refusesAround(Edges.UNKNOWN, 0, 3, 0, "put", 0, 0, 1);
        Run.busy().refuses(Edges.UNKNOWN, "put", 4, -1, 1).refuses(Edges.UNKNOWN, "put", -1, 99, 1);
    }

    static void putNull() {
        Edges.promise(26, "NULL");
        Run x = Run.busy();
        for (int i : new int[] {0, -1, 60, Edges.MIN, Edges.MAX}) {
            x.faults(Edges.NULL, "put", 3, i, 1);
        }
        x.does("lose", 1).faults(Edges.NULL, "put", 1, 0, 1);
    }

    static void putIndex() {
        Edges.promise(26, "INDEX.");
        Run.busy().faultsAround(Edges.INDEX, 0, 2, 1, "put", 1, 0, 9);
        Run.busy().row(3, Edges.BYTES, 5).faultsAround(Edges.INDEX, 0, 0, 1, "put", 3, 0, 9);
        Run.busy().row(3, Edges.BYTES, new int[60]).faultsAround(Edges.INDEX, 0, 59, 1, "put", 3, 0, 9);
        Run.busy().row(3, Edges.BYTES).faults(Edges.INDEX, "put", 3, 0, 9).faults(Edges.INDEX, "put", 3, -1, 9);
    }

    // ---- 27 cell

    static void cellOfARow() {
        Edges.promise(27, "Cell i of what a SHEET has, taken as a row of a LANE.");
        for (int lane = 0; lane <= 2; lane++) {
            Run x = Run.fresh().row(0, lane, upTo(60));
            x.asks(1, "cell", 0, 0, lane).asks(2, "cell", 0, 1, lane).asks(60, "cell", 0, 59, lane);
        }
        Run.fresh().row(0, Edges.INTS, Edges.MIN, Edges.MAX).asks(Edges.MIN, "cell", 0, 0, 2).asks(Edges.MAX, "cell", 0, 1, 2);
    }

    static void cellUnknown() {
        Edges.promise(27, "LOST: UNKNOWN");
        Run x = Run.fresh();
        for (int k = 0; k <= 3; k++) {
            x.row(k, Edges.BYTES, 5);
        }
        x.refusesAround(Edges.LOST, 0, 3, 0, "cell", 0, 0, Edges.BYTES);
        x.refuses(Edges.LOST, "cell", 4, -1, 3).refuses(Edges.LOST, "cell", -1, 1, Edges.INTS);
    }

    static void cellOutside() {
        Edges.promise(27, "OUTSIDE: lane");
        Run x = Run.busy();
        for (int lane : new int[] {-1, 3, Edges.MIN, Edges.MAX}) {
            x.refuses(Edges.LOST, "cell", 0, 0, lane).refuses(Edges.LOST, "cell", 3, 0, lane);
            x.refuses(Edges.LOST, "cell", 0, -1, lane);
        }
    }

    static void cellCast() {
        Edges.promise(27, "FAULTS CAST (nothing is no CAST)");
        for (int is = 0; is <= 2; is++) {
            for (int lane = 0; lane <= 2; lane++) {
                Run x = Run.busy().row(3, is, 5);
                if (is == lane) {
                    x.asks(5, "cell", 3, 0, lane);
                } else {
                    x.faults(Edges.CAST, "cell", 3, 0, lane).faults(Edges.CAST, "cell", 3, 1, lane);
                    x.faults(Edges.CAST, "cell", 3, -1, lane);
                }
                x.does("lose", 3).faults(Edges.NULL, "cell", 3, 0, lane);
            }
        }
    }

    static void cellNull() {
        Edges.promise(27, "NULL");
        Run x = Run.busy();
        for (int i : new int[] {0, -1, 60, Edges.MIN, Edges.MAX}) {
            x.faults(Edges.NULL, "cell", 3, i, Edges.BYTES).faults(Edges.NULL, "cell", 3, i, Edges.INTS);
        }
    }

    static void cellIndex() {
        Edges.promise(27, "INDEX.");
        Run.busy().faultsAround(Edges.INDEX, 0, 2, 1, "cell", 1, 0, Edges.SHORTS);
        Run.busy().row(3, Edges.BYTES, upTo(60)).faultsAround(Edges.INDEX, 0, 59, 1, "cell", 3, 0, Edges.BYTES);
        Run.busy().row(3, Edges.BYTES).faults(Edges.INDEX, "cell", 3, 0, Edges.BYTES);
    }

    // ---- 28 copy

    static void copyToAnother() {
        Edges.promise(28, "n cells of a SHEET from i on go to another one (perhaps the same) from j on, as they were: n.");
        Run x = Run.fresh().row(0, Edges.SHORTS, 1, 2, 3, 4, 5).row(3, Edges.SHORTS, 6, 7, 8);
        x.due(2, "copy", 0, 3, 3, 1, 2);
        rowIs(x, 3, Edges.SHORTS, 6, 4, 5);
        rowIs(x, 0, Edges.SHORTS, 1, 2, 3, 4, 5);
        x.due(3, "copy", 3, 0, 0, 0, 3);
        rowIs(x, 0, Edges.SHORTS, 6, 4, 5, 4, 5);
        // the same one, upwards and downwards, as they were
        x.row(0, Edges.SHORTS, 1, 2, 3, 4, 5).due(4, "copy", 0, 0, 0, 1, 4);
        rowIs(x, 0, Edges.SHORTS, 1, 1, 2, 3, 4);
        x.row(0, Edges.SHORTS, 1, 2, 3, 4, 5).due(4, "copy", 0, 1, 0, 0, 4);
        rowIs(x, 0, Edges.SHORTS, 2, 3, 4, 5, 5);
        x.due(5, "copy", 0, 0, 0, 0, 5);
        rowIs(x, 0, Edges.SHORTS, 2, 3, 4, 5, 5);
        Run full = Run.fresh().row(1, Edges.INTS, upTo(60)).row(2, Edges.INTS, new int[60]).due(60, "copy", 1, 0, 2, 0, 60);
        rowIs(full, 2, Edges.INTS, upTo(60));
        // none, from and to the very ends, of rows that have none
        full.asks(0, "copy", 1, 60, 2, 60, 0).asks(0, "copy", 1, 0, 2, 0, 0);
        full.row(0, Edges.INTS).asks(0, "copy", 0, 0, 0, 0, 0).asks(0, "copy", 0, 0, 1, 60, 0);
    }

    static void copyUnknown() {
        Edges.promise(28, "UNKNOWN");
        Run.busy().refusesAround(Edges.UNKNOWN, 0, 3, 0, "copy", 1, 0, 1, 0, 0);
        Run.busy().refusesAround(Edges.UNKNOWN, 0, 3, 2, "copy", 1, 0, 1, 0, 0);
        Run.busy().refuses(Edges.UNKNOWN, "copy", 3, 0, 4, 0, 0).refuses(Edges.UNKNOWN, "copy", 4, -1, 3, -1, -1);
    }

    static void copyNull() {
        Edges.promise(28, "FAULTS NULL (the first, the other)");
        Run x = Run.busy();
        x.faults(Edges.NULL, "copy", 3, 0, 1, 0, 0).faults(Edges.NULL, "copy", 1, 0, 3, 0, 0);
        x.faults(Edges.NULL, "copy", 3, 0, 3, 0, 0).faults(Edges.NULL, "copy", 3, -1, 1, -1, -1);
        x.faults(Edges.NULL, "copy", 2, 9, 3, 9, 9);
    }

    static void copyCast() {
        Edges.promise(28, "CAST (unlike LANES)");
        for (int from = 0; from <= 2; from++) {
            for (int to = 0; to <= 2; to++) {
                Run x = Run.busy().row(1, from, 1, 2).row(3, to, 3, 4);
                if (from == to) {
                    x.due(2, "copy", 1, 0, 3, 0, 2);
                } else {
                    x.faults(Edges.CAST, "copy", 1, 0, 3, 0, 2).faults(Edges.CAST, "copy", 1, -1, 3, 0, 2);
                    x.faults(Edges.CAST, "copy", 1, 0, 3, 0, 0).faults(Edges.CAST, "copy", 1, 0, 3, 0, -1);
                }
            }
        }
    }

    static void copyIndex() {
        Edges.promise(28, "INDEX: i, j, n below 0 or beyond.");
        Run x = Run.busy().row(3, Edges.SHORTS, 6, 7, 8, 9, 10);
        x.faultsAround(Edges.INDEX, 0, 4, 1, "copy", 3, 0, 1, 0, 1).faultsAround(Edges.INDEX, 0, 2, 3, "copy", 3, 0, 1, 0, 1);
        x.faultsAround(Edges.INDEX, 0, 3, 4, "copy", 3, 0, 1, 0, 1).faultsAround(Edges.INDEX, 0, 3, 4, "copy", 1, 0, 3, 0, 1);
        x.faultsAround(Edges.INDEX, 0, 5, 1, "copy", 3, 0, 1, 0, 0).faultsAround(Edges.INDEX, 0, 3, 3, "copy", 3, 0, 1, 0, 0);
        int[][] wrong = {{4, 0, 2}, {0, 2, 2}, {5, 0, 1}, {0, 3, 1}, {-1, -1, 1}, {1, 1, Edges.MAX}, {Edges.MAX, 0, Edges.MAX},
            {0, Edges.MAX, Edges.MAX}, {Edges.MAX, Edges.MAX, 1}, {Edges.MIN, 0, Edges.MIN}, {5, 3, -1}, {6, 4, -1}};
        for (int[] w : wrong) {
            x.faults(Edges.INDEX, "copy", 3, w[0], 1, w[1], w[2]);
        }
        // within one row, too
        x.faults(Edges.INDEX, "copy", 3, 0, 3, 1, 5).faults(Edges.INDEX, "copy", 3, 1, 3, 0, 5);
    }
}
