/** Part 1 of "Terms": a TEXT and its FIRST FAULT, SHAPES and the ring, GOES. */
final class EdgesOfText {
    private static final String SIX = "g255;b774;n001;h774;b001;n774;h001";

    private static void fault(int place, String text) {
        Run.busy().text(3, Edges.BYTES, text).refuses(-100 - place, "garden", 3, Edges.BYTES, 0, text.length());
    }

    private static void taken(int blocks, String text) {
        Run.busy().text(3, Edges.BYTES, text).due(blocks, "garden", 3, Edges.BYTES, 0, text.length());
    }

    static void laws() {
        Edges.terms("A GARDEN by a TEXT: g, three digits 000 .. 255 (LAW)", 2);
        for (int law = 0; law <= 255; law++) {
            String text = String.format("g%03d;b001", law);
            Run.fresh().text(0, Edges.BYTES, text).due(1, "garden", 0, Edges.BYTES, 0, 9).asks(law, "many", 1);
        }
        fault(3, "g256;b001");
        fault(2, "g260;b001");
        fault(1, "g300;b001");
        fault(1, "g-01;b001");
        fault(3, "g00;b001");
        fault(4, "g0000;b001");
    }

    static void oneToSixBlocks() {
        Edges.terms("then 1 to 6 BLOCKS, numbered from 0 on", 2);
        fault(4, SIX.substring(0, 4));
        for (int blocks = 1; blocks <= 6; blocks++) {
            taken(blocks, SIX.substring(0, 4 + 5 * blocks));
        }
        fault(34, SIX + ";b001");
        Run one = Run.of("g170;b771");
        one.asks(63, "ofBlock", 0, 1).refuses(Edges.UNKNOWN, "ofBlock", 1, 1);
        Run six = Run.of(SIX);
        six.asks(0, "ofBlock", 0, 0).asks(2, "ofBlock", 5, 0).refuses(Edges.UNKNOWN, "ofBlock", 6, 0);
    }

    static void aBlock() {
        Edges.terms("each: ; and a letter, two digits 0 .. 7 (SHAPE: eight times the first, and the second),"
            + " a digit 1 .. 4 (PACE).", 2);
        Run.of("g000;b001").asks(0, "ofBlock", 0, 1).asks(1, "ofBlock", 0, 2);
        Run.of("g000;b704").asks(56, "ofBlock", 0, 1).asks(4, "ofBlock", 0, 2);
        Run.of("g000;b071").asks(7, "ofBlock", 0, 1);
        Run.of("g000;b774").asks(63, "ofBlock", 0, 1);
        fault(6, "g000;b801");
        fault(6, "g000;b/01");
        fault(7, "g000;b081");
        fault(7, "g000;b0/1");
        fault(8, "g000;b000");
        fault(8, "g000;b005");
        fault(4, "g000:b001");
        fault(5, "g000;;b001");
    }

    static void firstFaultIsTheFirst() {
        Edges.terms("FIRST FAULT: the place (from 0 on) of the first code with which no TEXT goes on", 2);
        fault(0, "x");
        fault(0, "xyz");
        fault(1, "gxx");
        fault(4, "g000xxxxx");
        fault(5, "g000;x009");
        fault(8, "g000;b009;x");
        fault(9, "g000;b001xx");
        fault(33, SIX.substring(0, 33) + "0;b001");
    }

    static void digitsOfALaw() {
        Edges.terms("of 000 .. 255 the first digit by which no such number begins", 2);
        for (char c = '0'; c <= '9'; c++) {
            fault(c <= '2' ? 2 : 1, "g" + c);
            fault(c <= '5' ? 3 : 2, "g2" + c);
            fault(c <= '5' ? 4 : 3, "g25" + c);
            fault(3, "g1" + c);
            fault(4, "g24" + c);
            fault(4, "g15" + c);
        }
        fault(1, "g/");
        fault(2, "g2/");
        fault(3, "g25/");
        fault(3, "g09:");
    }

    static void aSeventhBlock() {
        Edges.terms("the ; of a seventh BLOCK", 2);
        fault(34, SIX + ";");
        fault(34, SIX + ";b001");
        fault(34, SIX + "b");
        taken(6, SIX);
    }

    static void itEndsTooSoon() {
        Edges.terms("how many codes there are, if it just ends too soon.", 2);
        for (int n = 0; n <= SIX.length(); n++) {
            if (n > 4 && (n - 4) % 5 == 0) {
                taken((n - 4) / 5, SIX.substring(0, n));
            } else {
                fault(n, SIX.substring(0, n));
            }
        }
    }

    static void codes() {
        Edges.terms("(Codes: g 103, b 98, n 110, h 104, ; 59, digits 48 .. 57.)", 2);
        int[] text = {103, 48, 48, 48, 59, 98, 48, 48, 49};
        for (int place = 0; place < text.length; place++) {
            for (int code : new int[] {-128, -1, 0, 47, 48, 49, 50, 52, 53, 55, 56, 57, 58, 59, 60, 97, 98, 99, 102, 103,
                104, 105, 109, 110, 111, 127}) {
                int[] other = text.clone();
                other[place] = code;
                Run x = Run.fresh().row(0, Edges.BYTES, other);
                x.due(fits(place, code) ? 1 : -100 - place, "garden", 0, Edges.BYTES, 0, 9);
            }
        }
        // what is wider than a byte is a code of its own, unless it was cut as it came to a byte
        for (int more : new int[] {256, -256, 65536, 1 << 24}) {
            Run x = Run.fresh().row(0, Edges.INTS, 103 + more, 48, 48, 48, 59, 98, 48, 48, 49);
            x.refuses(-100, "garden", 0, Edges.INTS, 0, 9);
            x.row(0, Edges.BYTES, 103 + more, 48, 48, 48, 59, 98, 48, 48, 49).due(1, "garden", 0, Edges.BYTES, 0, 9);
        }
    }

    private static boolean fits(int place, int code) {
        switch (place) {
            case 0: return code == 103;
            case 1: return code >= 48 && code <= 50;
            case 2, 3: return code >= 48 && code <= 57;
            case 4: return code == 59;
            case 5: return code == 98 || code == 110 || code == 104;
            case 8: return code >= 49 && code <= 52;
            default: return code >= 48 && code <= 55;
        }
    }

    static void kinds() {
        Edges.terms("Kinds: 0 BUST (b); 1 NYMPH (n), a BUST; 2 HORSE (h), a NYMPH.", 2, 3, 31);
        Run x = Run.of("g000;b001;n001;h001");
        for (int k = 0; k < 3; k++) {
            x.asks(k, "ofBlock", k, 0);
            for (int kind = 0; kind < 3; kind++) {
                if (kind <= k) {
                    x.asks(1, "as", k, kind);
                } else {
                    x.faults(Edges.CAST, "as", k, kind);
                }
            }
        }
    }

    static void aTextMakesAllAnew() {
        Edges.terms("A TEXT that is taken makes all anew: nobody LOOKS at any, it is DAY 0, no READINGS.", 2);
        Run x = Run.busy().does("look", 0).does("look", 2);
        x.text(3, Edges.BYTES, "g110;b121;n341;h561;b001;n771").due(5, "garden", 3, Edges.BYTES, 0, 29);
        int[] shapes = {10, 28, 46, 0, 63};
        for (int k = 0; k < 5; k++) {
            x.asks(shapes[k], "ofBlock", k, 1).asks(0, "ofBlock", k, 4).asks(-1L, "starts", k);
        }
        x.asks(5, "many", 0).asks(110, "many", 1).asks(0, "many", 2).asks(0, "many", 3).asks(0, "many", 4);
        x.refuses(Edges.OUTSIDE, "back", 1).due(0, "reading", 0, 0, 0);
        Run fewer = Run.busy().does("look", 2).text(3, Edges.BYTES, "g110;b121");
        fewer.due(1, "garden", 3, Edges.BYTES, 0, 9).refuses(Edges.UNKNOWN, "ofBlock", 1, 0);
        fewer.asks(1, "many", 0).asks(0, "many", 3).asks(-1L, "starts", 0);
    }

    static void theRing() {
        Edges.terms("SHAPE: six cells in a ring, as bits (0 .. 63); bit k is beside bits k + 1 and k - 1 (5 beside 0).", 4);
        // by 170 a cell becomes the one below it, by 240 the one above it
        Run up = Run.of("g170;b001");
        Run down = Run.of("g240;b001");
        for (int k = 0; k < 6; k++) {
            up.asks(1 << (k == 5 ? 0 : k + 1), "becomes", 1 << k);
            down.asks(1 << (k == 0 ? 5 : k - 1), "becomes", 1 << k);
        }
        up.asks(0, "becomes", 0).asks(63, "becomes", 63).asks(3, "becomes", 33).asks(31, "becomes", 47);
        down.asks(0, "becomes", 0).asks(63, "becomes", 63).asks(48, "becomes", 33).asks(62, "becomes", 61);
    }

    static void aStep() {
        Edges.terms("A STEP: cell k becomes bit 4 a + 2 b + c of LAW, of cell k + 1 (a), itself (b), cell k - 1 (c),"
            + " of all at once.", 4);
        for (int bit = 0; bit < 8; bit++) {
            Run only = Run.of("g000;b001").does("enact", 1 << bit);
            Run all = Run.of("g000;b001").does("enact", 255 - (1 << bit));
            for (int shape = 0; shape < 64; shape++) {
                int set = cellsWith(shape, bit);
                only.asks(set, "becomes", shape);
                all.asks(63 - set, "becomes", shape);
            }
        }
        // told one by one, from either end, the cell would be lost or run through
        Run.of("g170;b001").asks(2, "becomes", 1).asks(42, "becomes", 21);
        Run.of("g240;b001").asks(16, "becomes", 32).asks(21, "becomes", 42);
    }

    /** The cells whose three, from the one above to the one below, are told by the bits of a number. */
    private static int cellsWith(int shape, int number) {
        String ring = "";
        for (int k = 5; k >= 0; k--) {
            ring += shape >> k & 1;
        }
        String three = "" + (number >> 2 & 1) + (number >> 1 & 1) + (number & 1);
        String twice = ring.charAt(5) + ring + ring.charAt(0);
        int set = 0;
        for (int p = 0; p < 6; p++) {
            set += twice.startsWith(three, p) ? 1 << 5 - p : 0;
        }
        return set;
    }

    static void goes() {
        Edges.terms("GOES: how many STEPS a BLOCK goes on in a DAY: a BUST PACE; a NYMPH 1 more;"
            + " a HORSE twice what a BUST does.", 3, 7);
        Run slow = Run.of("g170;b011;n011;h011");
        slow.asks(1, "ofBlock", 0, 3).asks(2, "ofBlock", 1, 3).asks(2, "ofBlock", 2, 3);
        slow.due(3, "days", 1).asks(2, "ofBlock", 0, 1).asks(4, "ofBlock", 1, 1).asks(4, "ofBlock", 2, 1);
        Run fast = Run.of("g170;b014;n014;h014");
        fast.asks(4, "ofBlock", 0, 3).asks(5, "ofBlock", 1, 3).asks(8, "ofBlock", 2, 3);
        fast.due(3, "days", 1).asks(16, "ofBlock", 0, 1).asks(32, "ofBlock", 1, 1).asks(4, "ofBlock", 2, 1);
        Run middle = Run.of("g170;h012;h013");
        middle.asks(4, "ofBlock", 0, 3).asks(6, "ofBlock", 1, 3).due(1, "days", 1);
    }
}
