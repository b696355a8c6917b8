/** Part 2 of "Terms", and promises 7 to 10: days, look, away, stroke. By LAW 170 a cell moves one up by each STEP. */
final class EdgesOfDays {
    private static final String SIX = "g170;b011;b021;b041;b101;b201;b401";

    // ---- what a DAY, LOOKING and a STROKE are

    static void aDay() {
        Edges.terms("A DAY: each BLOCK at which nobody LOOKS GOES on.", 7, 8, 9);
        Run x = Run.of(SIX);
        x.due(6, "days", 1).asks(2, "ofBlock", 0, 1).asks(1, "ofBlock", 5, 1);
        for (int k = 0; k < 6; k++) {
            x.does("look", k);
        }
        x.due(0, "days", 1).asks(2, "many", 2).asks(2, "ofBlock", 0, 1).asks(1, "ofBlock", 5, 1);
        x.does("away", 5).due(1, "days", 1).asks(2, "ofBlock", 0, 1).asks(2, "ofBlock", 5, 1);
    }

    static void lookingAndAway() {
        Edges.terms("One LOOKS at a BLOCK (nobody does yet); AWAY: nobody does any longer.", 8, 9);
        Run x = Run.of("g170;b011");
        x.refuses(Edges.STATE, "away", 0).due(1, "look", 0).refuses(Edges.STATE, "look", 0);
        x.due(0, "away", 0).refuses(Edges.STATE, "away", 0).due(1, "look", 0).asks(1, "many", 3);
    }

    static void aStroke() {
        Edges.terms("A STROKE: a cell of a BLOCK becomes the other one.", 10);
        Run x = Run.of("g170;b001;b771");
        for (int cell = 0; cell < 6; cell++) {
            x.due(1 << cell, "stroke", 0, cell).due(0, "stroke", 0, cell);
            x.due(63 - (1 << cell), "stroke", 1, cell).due(63, "stroke", 1, cell);
        }
    }

    // ---- 7 days

    static void daysTheEnds() {
        Edges.promise(7, "n DAYS (1 .. 300) go by");
        Run x = Run.of("g170;b011");
        x.due(1, "days", 1).asks(1, "many", 2).asks(2, "ofBlock", 0, 1);
        x.due(0, "days", 300).asks(301, "many", 2).asks(2, "ofBlock", 0, 1);
        x.due(1, "days", 299).asks(600, "many", 2).asks(1, "ofBlock", 0, 1);
        x.due(1, "days", 2).asks(602, "many", 2).asks(4, "ofBlock", 0, 1);
    }

    static void daysOthers() {
        Edges.promise(7, "how many BLOCKS are another SHAPE than they were.");
        // by 51 each STEP changes all cells: an even number of them brings all back
        Run x = Run.of("g051;b001;b002;b003;b004;n001;h771");
        x.due(2, "days", 1).due(0, "days", 2).does("enact", 255).due(3, "days", 1).due(0, "days", 1);
        x.does("enact", 51).does("hurry", 1, 1).does("hurry", 3, 3).does("hurry", 4, 2).due(5, "days", 1);
        x.does("look", 0).due(4, "days", 1);
    }

    static void daysOutside() {
        Edges.promise(7, "OUTSIDE");
        Run.busy().refusesAround(Edges.OUTSIDE, 1, 300, 0, "days", 1);
        Run.fresh().refusesAround(Edges.OUTSIDE, 1, 300, 0, "days", 1);
    }

    static void daysState() {
        Edges.promise(7, "STATE: there is no GARDEN.");
        Run.fresh().refuses(Edges.STATE, "days", 1).refuses(Edges.STATE, "days", 300).asks(0, "many", 2);
    }

    // ---- 8 look

    static void lookGivesTheShape() {
        Edges.promise(8, "One LOOKS at a BLOCK: its SHAPE.");
        Run x = Run.of("g170;b001;b771;b011;b011;b011;b401");
        x.due(0, "look", 0).due(63, "look", 1).due(32, "look", 5).asks(3, "many", 3);
        x.asks(1, "ofBlock", 0, 4).asks(0, "ofBlock", 2, 4).asks(1, "ofBlock", 5, 4).asks(0, "many", 2);
    }

    static void lookUnknown() {
        Edges.promise(8, "UNKNOWN");
        Run.busy().refusesAround(Edges.UNKNOWN, 0, 2, 0, "look", 0);
        Run.of(SIX).refusesAround(Edges.UNKNOWN, 0, 5, 0, "look", 0);
    }

    static void lookState() {
        Edges.promise(8, "STATE: one does.");
        Run x = Run.of(SIX);
        for (int k = 0; k < 6; k++) {
            x.due(1 << k, "look", k).refuses(Edges.STATE, "look", k);
        }
        x.does("days", 1).refuses(Edges.STATE, "look", 0).does("stroke", 0, 0).refuses(Edges.STATE, "look", 0);
        x.does("away", 0).due(0, "look", 0);
    }

    // ---- 9 away

    static void awayTellsHowManyAreLeft() {
        Edges.promise(9, "AWAY from a BLOCK: how many are LOOKED at yet.");
        Run x = Run.of(SIX);
        for (int k = 0; k < 6; k++) {
            x.does("look", k);
        }
        for (int k = 5; k >= 0; k--) {
            x.due(k, "away", k).asks(k, "many", 3).asks(0, "ofBlock", k, 4);
        }
    }

    static void awayUnknown() {
        Edges.promise(9, "UNKNOWN");
        Run.busy().refusesAround(Edges.UNKNOWN, 0, 2, 0, "away", 0);
        Run.of(SIX).refusesAround(Edges.UNKNOWN, 0, 5, 0, "away", 0);
    }

    static void awayState() {
        Edges.promise(9, "STATE: nobody LOOKS at it.");
        Run x = Run.of(SIX).does("look", 3);
        for (int k = 0; k < 6; k++) {
            if (k != 3) {
                x.refuses(Edges.STATE, "away", k);
            }
        }
        x.due(0, "away", 3).refuses(Edges.STATE, "away", 3);
    }

    // ---- 10 stroke

    static void strokeTheEnds() {
        Edges.promise(10, "A STROKE at a cell (0 .. 5) of a BLOCK: its SHAPE then.");
        Run x = Run.of("g170;b001;b771").does("look", 1);
        x.due(1, "stroke", 0, 0).due(33, "stroke", 0, 5).due(62, "stroke", 1, 0).due(30, "stroke", 1, 5);
        x.asks(33, "ofBlock", 0, 1).asks(30, "ofBlock", 1, 1).asks(0, "many", 2).asks(1, "many", 3);
    }

    static void strokeUnknown() {
        Edges.promise(10, "UNKNOWN");
        Run.busy().refusesAround(Edges.UNKNOWN, 0, 2, 0, "stroke", 0, 0);
        Run.of(SIX).refusesAround(Edges.UNKNOWN, 0, 5, 0, "stroke", 0, 5);
        Run.busy().refuses(Edges.UNKNOWN, "stroke", 3, 6).refuses(Edges.UNKNOWN, "stroke", -1, -1);
    }

    static void strokeOutside() {
        Edges.promise(10, "OUTSIDE.");
        Run.busy().refusesAround(Edges.OUTSIDE, 0, 5, 1, "stroke", 0, 0);
        Run.busy().refusesAround(Edges.OUTSIDE, 0, 5, 1, "stroke", 1, 0);
    }
}
