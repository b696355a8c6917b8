import java.util.Arrays;

/**
 * A garden of marble blocks that go on by a law while nobody looks at them.
 * The words in capitals in the comments are those of the document's "Terms".
 */
public final class MarbleGarden {
    public static final int UNKNOWN = -1, OUTSIDE = -2, STATE = -3, FULL = -4, NONE = -9;
    public static final long LOST = Long.MIN_VALUE;

    private static final int FAULT_NULL = 1, FAULT_CAST = 2, FAULT_INDEX = 3, FAULT_SIZE = 4;
    private static final int ABOVE_FAULTS = -10, ABOVE_FIRSTS = -100;

    private static final int BUST = 0, NYMPH = 1, HORSE = 2, KIND_COUNT = 3;
    private static final int CELL_COUNT = 6, SHAPE_COUNT = 64, LAW_COUNT = 256;
    private static final int MOST_BLOCKS = 6, LEAST_PACE = 1, MOST_PACE = 4, MOST_STEPS = 8;

    private static final int MOST_DAYS_GONE = 300, MOST_DAYS_AHEAD = 99, MOST_READINGS = 8;
    private static final int MOST_TAKEN = 20;

    private static final int SHEET_COUNT = 4, LANE_COUNT = 3, MOST_CELLS = 60;
    private static final int BYTES = 0, SHORTS = 1;

    private static final int ACT_DAYS = 0, ACT_LOOK = 1, ACT_AWAY = 2, ACT_STROKE = 10;
    private static final int OF_WRONG = 1, OF_SHAPE = 10;

    private static final int TRACE_FACTOR = 31;
    private static final int BODY_BUST = 1, BODY_NYMPH = 2, BODY_HORSE = 3, BODY_LENT = 4, BODY_OWN = 5;

    private final Law law = new Law();
    private final Blocks blocks = new Blocks();
    /** Another set of BLOCKS, made once: how they were, or how they would be if one were otherwise. */
    private final Blocks supposed = new Blocks();
    private final Years told = new Years();
    private final Readings readings = new Readings();
    private final Sheet[] sheets = new Sheet[SHEET_COUNT];
    private int traced;
    private int latestFault;

    public MarbleGarden() {
        for (int k = 0; k < SHEET_COUNT; k++) {
            sheets[k] = new Sheet();
        }
    }

    // ---- 1 the garden

    public int garden(int sheet, int lane, int i, int n) {
        if (!isSheet(sheet)) {
            return withoutFault(UNKNOWN);
        }
        if (!isLane(lane)) {
            return withoutFault(OUTSIDE);
        }
        Sheet row = sheets[sheet];
        int faultFound = row.faultOfTaking(lane, i, n);
        if (faultFound != 0) {
            return withFault(faultFound);
        }
        int place = Text.firstFault(row, i, n);
        if (place != NONE) {
            return withoutFault(ABOVE_FIRSTS - place);
        }
        law.fix(Text.lawOf(row, i));
        blocks.begin(row, i, n);
        readings.forgetAll();
        return withoutFault(blocks.count);
    }

    public int ofBlock(int k, int what) {
        if (!blocks.has(k)) {
            return UNKNOWN;
        }
        switch (what) {
            case 0: return blocks.kindOf[k];
            case 1: return blocks.shapeOf[k];
            case 2: return blocks.paceOf[k];
            case 3: return blocks.stepsADay(k);
            case 4: return blocks.isLookedAt(k) ? 1 : 0;
            case 5: return Integer.bitCount(blocks.shapeOf[k]);
            default: return OUTSIDE;
        }
    }

    public int becomes(int shape) {
        int refusal = refusalOfShape(shape);
        return refusal != 0 ? refusal : law.after(shape, 1);
    }

    public int enact(int v) {
        if (v < 0 || v >= LAW_COUNT) {
            return OUTSIDE;
        }
        if (!hasGarden()) {
            return STATE;
        }
        int was = law.number;
        law.fix(v);
        return was;
    }

    public int hurry(int k, int v) {
        if (!blocks.has(k)) {
            return UNKNOWN;
        }
        if (v < LEAST_PACE || v > MOST_PACE) {
            return OUTSIDE;
        }
        int was = blocks.paceOf[k];
        blocks.paceOf[k] = v;
        return was;
    }

    // ---- 2 days

    public int days(int n) {
        if (n < 1 || n > MOST_DAYS_GONE) {
            return OUTSIDE;
        }
        if (!hasGarden()) {
            return STATE;
        }
        supposed.copyFrom(blocks);
        for (int d = 0; d < n; d++) {
            blocks.goOn(law);
        }
        int others = 0;
        for (int k = 0; k < blocks.count; k++) {
            if (blocks.shapeOf[k] != supposed.shapeOf[k]) {
                others++;
            }
        }
        return others;
    }

    public int look(int k) {
        if (!blocks.has(k)) {
            return UNKNOWN;
        }
        return blocks.lookAt(k) ? blocks.shapeOf[k] : STATE;
    }

    public int away(int k) {
        if (!blocks.has(k)) {
            return UNKNOWN;
        }
        return blocks.lookAwayFrom(k) ? Integer.bitCount(blocks.lookedAt) : STATE;
    }

    public int stroke(int k, int cell) {
        if (!blocks.has(k)) {
            return UNKNOWN;
        }
        if (cell < 0 || cell >= CELL_COUNT) {
            return OUTSIDE;
        }
        blocks.strikeAt(k, cell);
        return blocks.shapeOf[k];
    }

    public int years(int sheet, int lane, int i, int n, int what) {
        if (!isSheet(sheet)) {
            return withoutFault(UNKNOWN);
        }
        if (!isLane(lane) || !canTake(n) || !Years.tells(what)) {
            return withoutFault(OUTSIDE);
        }
        Sheet row = sheets[sheet];
        int faultFound = row.faultOfTaking(lane, i, 2 * n);
        if (faultFound != 0) {
            return withFault(faultFound);
        }
        if (!hasGarden()) {
            return withoutFault(STATE);
        }
        int refusal = Years.refusalOfPairs(blocks, row, i, n);
        if (refusal != 0) {
            return withoutFault(refusal);
        }
        told.live(blocks, law, row, i, n);
        return withoutFault(told.answer(what));
    }

    // ---- 3 what it will be

    public int comes(int k, int v) {
        if (!blocks.has(k)) {
            return UNKNOWN;
        }
        if (!isShape(v)) {
            return OUTSIDE;
        }
        return law.daysTo(blocks.shapeOf[k], blocks.stepsADay(k), v);
    }

    public int strokes(int k, int v) {
        if (!blocks.has(k)) {
            return UNKNOWN;
        }
        if (!isShape(v)) {
            return OUTSIDE;
        }
        int goes = blocks.stepsADay(k);
        int best = NONE;
        int fewest = CELL_COUNT + 1;
        for (int set = 0; set < SHAPE_COUNT; set++) {
            int size = Integer.bitCount(set);
            if (size < fewest && law.daysTo(blocks.shapeOf[k] ^ set, goes, v) != NONE) {
                best = set;
                fewest = size;
            }
        }
        return best;
    }

    public int round(int shape, int what) {
        if (!isShape(shape) || what < 0 || what > 1) {
            return OUTSIDE;
        }
        if (!hasGarden()) {
            return STATE;
        }
        int lead = 0;
        int now = shape;
        // behind 63 STEPS every SHAPE is one of those that come back
        while (lead < SHAPE_COUNT && law.stepsBack(now) == NONE) {
            now = law.after(now, 1);
            lead++;
        }
        return what == 0 ? lead : law.stepsBack(now);
    }

    public long eden(int v) {
        if (refusalOfShape(v) != 0) {
            return LOST;
        }
        long set = 0;
        for (int shape = 0; shape < SHAPE_COUNT; shape++) {
            if (law.after(shape, 1) == v) {
                set |= 1L << shape;
            }
        }
        return set;
    }

    public int alike(int a, int b) {
        if (!blocks.has(a) || !blocks.has(b) || a == b) {
            return UNKNOWN;
        }
        int one = blocks.shapeOf[a];
        int other = blocks.shapeOf[b];
        for (int d = 0; d <= MOST_DAYS_AHEAD; d++) {
            if (one == other) {
                return d;
            }
            one = law.after(one, blocks.stepsADay(a));
            other = law.after(other, blocks.stepsADay(b));
        }
        return NONE;
    }

    public int laws(int sheet, int lane, int i, int n, int what) {
        if (!isSheet(sheet)) {
            return withoutFault(UNKNOWN);
        }
        if (!isLane(lane) || !canTake(n) || what < 0 || what > 2) {
            return withoutFault(OUTSIDE);
        }
        Sheet row = sheets[sheet];
        int faultFound = row.faultOfTaking(lane, i, n);
        if (faultFound != 0) {
            return withFault(faultFound);
        }
        for (int p = 0; p < n; p++) {
            if (!isShape(row.at(i + p))) {
                return withoutFault(OUTSIDE);
            }
        }
        return withoutFault(lawsBy(row, i, n, what));
    }

    /** Each cell of each SHAPE but the last tells one bit of LAW; bits that none tells are free. */
    private static int lawsBy(Sheet row, int i, int n, int what) {
        int set = 0;
        int clear = 0;
        for (int p = 0; p + 1 < n; p++) {
            int shape = row.at(i + p);
            int next = row.at(i + p + 1);
            for (int k = 0; k < CELL_COUNT; k++) {
                int bit = 1 << Law.bitOf(shape, k);
                if ((next >> k & 1) == 1) {
                    set |= bit;
                } else {
                    clear |= bit;
                }
            }
        }
        boolean fits = (set & clear) == 0;
        if (what == 0) {
            return fits ? LAW_COUNT >> Integer.bitCount(set | clear) : 0;
        }
        if (!fits) {
            return NONE;
        }
        return what == 1 ? set : LAW_COUNT - 1 - clear;
    }

    // ---- 4 what it was

    public int reading(int k, int days, int v) {
        if (!blocks.has(k)) {
            return UNKNOWN;
        }
        if (days < 0 || days > MOST_DAYS_AHEAD || !isShape(v)) {
            return OUTSIDE;
        }
        return readings.add(k, days, v);
    }

    public int back(int n) {
        if (n < 0 || n > readings.count) {
            return OUTSIDE;
        }
        readings.count -= n;
        return readings.count;
    }

    public int paces(int k) {
        if (!blocks.has(k)) {
            return UNKNOWN;
        }
        supposed.copyFrom(blocks);
        int set = 0;
        for (int pace = LEAST_PACE; pace <= MOST_PACE; pace++) {
            supposed.paceOf[k] = pace;
            if (readings.areSo(supposed, law)) {
                set |= 1 << pace;
            }
        }
        return set;
    }

    public int kinds(int k) {
        if (!blocks.has(k)) {
            return UNKNOWN;
        }
        supposed.copyFrom(blocks);
        int set = 0;
        for (int kind = 0; kind < KIND_COUNT; kind++) {
            supposed.kindOf[k] = kind;
            if (readings.areSo(supposed, law)) {
                set |= 1 << kind;
            }
        }
        return set;
    }

    public long starts(int k) {
        if (!blocks.has(k)) {
            return 0;
        }
        supposed.copyFrom(blocks);
        long set = 0;
        for (int shape = 0; shape < SHAPE_COUNT; shape++) {
            supposed.shapeOf[k] = shape;
            if (readings.areSo(supposed, law)) {
                set |= 1L << shape;
            }
        }
        return set;
    }

    public long odds(int k, int n, int v, int which) {
        if (!blocks.has(k)) {
            return LOST;
        }
        if (n < 0 || n > MOST_DAYS_AHEAD || !isShape(v) || which < 0 || which > 1) {
            return LOST;
        }
        int upper = 0;
        int lower = SHAPE_COUNT;
        for (int shape = 0; shape < SHAPE_COUNT; shape++) {
            if (law.behind(shape, blocks.stepsADay(k), n) == v) {
                upper++;
            }
        }
        // the lower number is a power of two, so halving both gives the least terms
        while (lower > 1 && upper % 2 == 0) {
            upper /= 2;
            lower /= 2;
        }
        return which == 0 ? upper : lower;
    }

    // ---- 5 sheets, parts

    public int sheet(int k, int lane, int n) {
        if (!isSheet(k)) {
            return withoutFault(UNKNOWN);
        }
        if (!isLane(lane) || n > MOST_CELLS) {
            return withoutFault(OUTSIDE);
        }
        if (n < 0) {
            return withFault(FAULT_SIZE);
        }
        sheets[k].renew(lane, n);
        return withoutFault(1);
    }

    public int lose(int k) {
        if (!isSheet(k)) {
            return UNKNOWN;
        }
        return sheets[k].empty() ? 1 : 0;
    }

    public int put(int k, int i, int v) {
        if (!isSheet(k)) {
            return withoutFault(UNKNOWN);
        }
        Sheet row = sheets[k];
        if (!row.hasRow) {
            return withFault(FAULT_NULL);
        }
        if (!row.reaches(i, 1)) {
            return withFault(FAULT_INDEX);
        }
        row.write(i, v);
        return withoutFault(1);
    }

    public long cell(int k, int i, int lane) {
        latestFault = 0;
        if (!isSheet(k) || !isLane(lane)) {
            return LOST;
        }
        Sheet row = sheets[k];
        latestFault = row.faultOfTaking(lane, i, 1);
        return latestFault == 0 ? row.at(i) : LOST;
    }

    public int copy(int k, int i, int other, int j, int n) {
        if (!isSheet(k) || !isSheet(other)) {
            return withoutFault(UNKNOWN);
        }
        Sheet from = sheets[k];
        Sheet to = sheets[other];
        if (!from.hasRow || !to.hasRow) {
            return withFault(FAULT_NULL);
        }
        if (from.lane != to.lane) {
            return withFault(FAULT_CAST);
        }
        if (!from.reaches(i, n) || !to.reaches(j, n)) {
            return withFault(FAULT_INDEX);
        }
        System.arraycopy(from.cells, i, to.cells, j, n);
        return withoutFault(n);
    }

    public int tell(int k) {
        if (!blocks.has(k)) {
            return UNKNOWN;
        }
        switch (blocks.kindOf[k]) {
            case HORSE: return tellAsHorse(k);
            case NYMPH: return tellAsNymph(k);
            default: return tellAsBust(k);
        }
    }

    private int tellAsBust(int k) {
        leaveTrace(BODY_BUST);
        return blocks.paceOf[k];
    }

    private int tellAsNymph(int k) {
        leaveTrace(BODY_NYMPH);
        return tellAsBust(k) + 100;
    }

    private int tellAsHorse(int k) {
        leaveTrace(BODY_HORSE);
        int asNymph = tellAsNymph(k);
        return asNymph + tellAsBust(k);
    }

    public int sign(int k) {
        if (!blocks.has(k)) {
            return UNKNOWN;
        }
        if (blocks.kindOf[k] == HORSE) {
            leaveTrace(BODY_OWN);
            return 40;
        }
        leaveTrace(BODY_LENT);
        return k;
    }

    public int as(int k, int kind) {
        if (!blocks.has(k)) {
            return withoutFault(UNKNOWN);
        }
        if (kind < 0 || kind >= KIND_COUNT) {
            return withoutFault(OUTSIDE);
        }
        // kinds are numbered so that each is also every one below it
        return blocks.kindOf[k] < kind ? withFault(FAULT_CAST) : withoutFault(1);
    }

    public int trace() {
        return traced;
    }

    public int fault() {
        return latestFault;
    }

    public int many(int what) {
        switch (what) {
            case 0: return blocks.count;
            case 1: return law.number;
            case 2: return blocks.day;
            case 3: return Integer.bitCount(blocks.lookedAt);
            case 4: return readings.count;
            default: return OUTSIDE;
        }
    }

    // ---- what several calls need

    private boolean hasGarden() {
        return blocks.count > 0;
    }

    private int refusalOfShape(int shape) {
        if (!isShape(shape)) {
            return OUTSIDE;
        }
        return hasGarden() ? 0 : STATE;
    }

    private static boolean isShape(int v) {
        return v >= 0 && v < SHAPE_COUNT;
    }

    private static boolean isSheet(int k) {
        return k >= 0 && k < SHEET_COUNT;
    }

    private static boolean isLane(int lane) {
        return lane >= 0 && lane < LANE_COUNT;
    }

    /** How many pairs or SHAPES one call may tell. */
    private static boolean canTake(int n) {
        return n >= 0 && n <= MOST_TAKEN;
    }

    /** The end of a call that names FAULTS and came to none. */
    private int withoutFault(int answer) {
        latestFault = 0;
        return answer;
    }

    private int withFault(int number) {
        latestFault = number;
        return ABOVE_FAULTS - number;
    }

    private void leaveTrace(int body) {
        traced = TRACE_FACTOR * traced + body;
    }

    /** A LAW, and where it brings each SHAPE by 0 to 8 STEPS, so that a DAY is one look-up. */
    private static final class Law {
        private int number;
        private final int[] reached = new int[(MOST_STEPS + 1) * SHAPE_COUNT];

        void fix(int v) {
            number = v;
            for (int shape = 0; shape < SHAPE_COUNT; shape++) {
                reached[shape] = shape;
                reached[SHAPE_COUNT + shape] = stepOf(shape);
            }
            for (int at = 2 * SHAPE_COUNT; at < reached.length; at++) {
                reached[at] = after(reached[at - SHAPE_COUNT], 1);
            }
        }

        private int stepOf(int shape) {
            int next = 0;
            for (int k = 0; k < CELL_COUNT; k++) {
                next |= (number >> bitOf(shape, k) & 1) << k;
            }
            return next;
        }

        /** Which bit of a LAW decides what cell k of a SHAPE becomes. */
        static int bitOf(int shape, int k) {
            int a = shape >> (k + 1) % CELL_COUNT & 1;
            int b = shape >> k & 1;
            int c = shape >> (k + CELL_COUNT - 1) % CELL_COUNT & 1;
            return 4 * a + 2 * b + c;
        }

        int after(int shape, int steps) {
            if (!isShape(shape) || steps < 0 || steps > MOST_STEPS) {
                return shape;
            }
            return reached[steps * SHAPE_COUNT + shape];
        }

        int behind(int shape, int goes, int days) {
            int now = shape;
            for (int d = 0; d < days; d++) {
                now = after(now, goes);
            }
            return now;
        }

        /** NONE: it never comes; 64 SHAPES show themselves behind 0 to 63 DAYS or never. */
        int daysTo(int shape, int goes, int v) {
            int now = shape;
            for (int d = 0; d < SHAPE_COUNT; d++) {
                if (now == v) {
                    return d;
                }
                now = after(now, goes);
            }
            return NONE;
        }

        /** By how many STEPS a SHAPE comes back to itself; NONE: it does not. */
        int stepsBack(int shape) {
            int days = daysTo(after(shape, 1), 1, shape);
            return days == NONE ? NONE : days + 1;
        }
    }

    /** How all BLOCKS stand on one DAY. */
    private static final class Blocks {
        private int count;
        private int day;
        private int lookedAt;
        private final int[] kindOf = new int[MOST_BLOCKS];
        private final int[] shapeOf = new int[MOST_BLOCKS];
        private final int[] paceOf = new int[MOST_BLOCKS];

        boolean has(int k) {
            return k >= 0 && k < count;
        }

        /** The n cells from i on are a TEXT without a FIRST FAULT. */
        void begin(Sheet row, int i, int n) {
            count = Math.min(Text.blocksIn(n), MOST_BLOCKS);
            day = 0;
            lookedAt = 0;
            for (int k = 0; k < count; k++) {
                kindOf[k] = Text.kindOf(row, i, k);
                shapeOf[k] = Text.shapeOf(row, i, k);
                paceOf[k] = Text.paceOf(row, i, k);
            }
        }

        void copyFrom(Blocks other) {
            count = other.count;
            day = other.day;
            lookedAt = other.lookedAt;
            System.arraycopy(other.kindOf, 0, kindOf, 0, MOST_BLOCKS);
            System.arraycopy(other.shapeOf, 0, shapeOf, 0, MOST_BLOCKS);
            System.arraycopy(other.paceOf, 0, paceOf, 0, MOST_BLOCKS);
        }

        int stepsADay(int k) {
            switch (kindOf[k]) {
                case HORSE: return 2 * paceOf[k];
                case NYMPH: return paceOf[k] + 1;
                default: return paceOf[k];
            }
        }

        void goOn(Law law) {
            for (int k = 0; k < count; k++) {
                if (!isLookedAt(k)) {
                    shapeOf[k] = law.after(shapeOf[k], stepsADay(k));
                }
            }
            day++;
        }

        boolean isLookedAt(int k) {
            return (lookedAt >> k & 1) == 1;
        }

        /** false: one does already. */
        boolean lookAt(int k) {
            boolean can = !isLookedAt(k);
            lookedAt |= 1 << k;
            return can;
        }

        /** false: nobody looked at it. */
        boolean lookAwayFrom(int k) {
            boolean can = isLookedAt(k);
            lookedAt &= ~(1 << k);
            return can;
        }

        void strikeAt(int k, int cell) {
            shapeOf[k] ^= 1 << cell;
        }

        boolean twoAreAlike() {
            long seen = 0;
            for (int k = 0; k < count; k++) {
                seen |= 1L << shapeOf[k];
            }
            return Long.bitCount(seen) < count;
        }

        int cellsSet() {
            int sum = 0;
            for (int k = 0; k < count; k++) {
                sum += Integer.bitCount(shapeOf[k]);
            }
            return sum;
        }
    }

    /** YEARS as they are told, lived on a copy of the BLOCKS. */
    private static final class Years {
        private final Blocks then = new Blocks();
        private int firstDay;
        private int firstWrong;
        private int daysAlike;

        static boolean tells(int what) {
            return what >= 0 && what <= 4 || what >= OF_SHAPE && what < OF_SHAPE + MOST_BLOCKS;
        }

        /** 0: each of the n pairs is an act that may be told. */
        static int refusalOfPairs(Blocks blocks, Sheet row, int i, int n) {
            for (int p = 0; p < n; p++) {
                int first = row.at(i + 2 * p);
                int act = row.at(i + 2 * p + 1);
                if (!isAct(act) || act == ACT_DAYS && (first < 0 || first > MOST_DAYS_AHEAD)) {
                    return OUTSIDE;
                }
                if (act != ACT_DAYS && !blocks.has(first)) {
                    return UNKNOWN;
                }
            }
            return 0;
        }

        private static boolean isAct(int act) {
            return act >= ACT_DAYS && act <= ACT_AWAY || isStroke(act);
        }

        private static boolean isStroke(int act) {
            return act >= ACT_STROKE && act < ACT_STROKE + CELL_COUNT;
        }

        void live(Blocks now, Law law, Sheet row, int i, int n) {
            then.copyFrom(now);
            firstDay = now.day;
            firstWrong = NONE;
            daysAlike = 0;
            for (int p = 0; p < n && firstWrong == NONE; p++) {
                int first = row.at(i + 2 * p);
                int act = row.at(i + 2 * p + 1);
                if (act == ACT_DAYS) {
                    letGo(law, first);
                } else if (!tryAct(first, act)) {
                    firstWrong = p;
                }
            }
        }

        private void letGo(Law law, int days) {
            for (int d = 0; d < days; d++) {
                then.goOn(law);
                if (then.twoAreAlike()) {
                    daysAlike++;
                }
            }
        }

        /** Does what is told of BLOCK k; false: it can't be. */
        private boolean tryAct(int k, int act) {
            if (!then.has(k)) {
                return false;
            }
            if (act == ACT_LOOK) {
                return then.lookAt(k);
            }
            if (act == ACT_AWAY) {
                return then.lookAwayFrom(k);
            }
            then.strikeAt(k, act - ACT_STROKE);
            return true;
        }

        int answer(int what) {
            if (what == OF_WRONG) {
                return firstWrong;
            }
            if (firstWrong != NONE) {
                return ABOVE_FIRSTS - firstWrong;
            }
            switch (what) {
                case 0: return then.lookedAt;
                case 2: return then.cellsSet();
                case 3: return then.day - firstDay;
                case 4: return daysAlike;
                default: return then.has(what - OF_SHAPE) ? then.shapeOf[what - OF_SHAPE] : NONE;
            }
        }
    }

    /** What was seen of BLOCKS, or will be. */
    private static final class Readings {
        private int count;
        private final int[] block = new int[MOST_READINGS];
        private final int[] ahead = new int[MOST_READINGS];
        private final int[] seen = new int[MOST_READINGS];

        void forgetAll() {
            count = 0;
        }

        int add(int k, int days, int v) {
            if (count < 0 || count >= MOST_READINGS) {
                return FULL;
            }
            block[count] = k;
            ahead[count] = days;
            seen[count] = v;
            count++;
            return count - 1;
        }

        boolean areSo(Blocks blocks, Law law) {
            for (int r = 0; r < count; r++) {
                int k = block[r];
                if (!blocks.has(k)) {
                    return false;
                }
                if (law.behind(blocks.shapeOf[k], blocks.stepsADay(k), ahead[r]) != seen[r]) {
                    return false;
                }
            }
            return true;
        }
    }

    /** A SHEET: nothing, or a row of a LANE. */
    private static final class Sheet {
        private boolean hasRow;
        private int lane;
        private int length;
        /** Made once for every row that is to come: a run's room is small. */
        private final int[] cells = new int[MOST_CELLS];

        void renew(int newLane, int n) {
            hasRow = true;
            lane = newLane;
            length = n;
            Arrays.fill(cells, 0);
        }

        /** false: it had nothing. */
        boolean empty() {
            boolean had = hasRow;
            hasRow = false;
            length = 0;
            return had;
        }

        /** The FAULT, or 0, of n cells from i on, taken as a row of a LANE. */
        int faultOfTaking(int asLane, int i, int n) {
            if (hasRow && lane != asLane) {
                return FAULT_CAST;
            }
            if (!hasRow) {
                return FAULT_NULL;
            }
            if (n < 0) {
                return FAULT_SIZE;
            }
            return reaches(i, n) ? 0 : FAULT_INDEX;
        }

        /** Whether n cells from i on are all there; i + n could wrap, length - i can't. */
        boolean reaches(int i, int n) {
            return i >= 0 && i <= length && n >= 0 && n <= length - i;
        }

        int at(int i) {
            return i >= 0 && i < length ? cells[i] : 0;
        }

        void write(int i, int v) {
            if (i >= 0 && i < length) {
                cells[i] = cut(v);
            }
        }

        private int cut(int v) {
            switch (lane) {
                case BYTES: return (byte) v;
                case SHORTS: return (short) v;
                default: return v;
            }
        }
    }

    /** A TEXT, in the cells of a SHEET from i on: g and three digits, then five codes a BLOCK. */
    private static final class Text {
        private static final int HEAD = 4, PER_BLOCK = 5;

        /** NONE: it is a TEXT. */
        static int firstFault(Sheet row, int i, int n) {
            for (int p = 0; p < n; p++) {
                if (!goesOn(row, i, p)) {
                    return p;
                }
            }
            boolean ends = n > HEAD && (n - HEAD) % PER_BLOCK == 0;
            return ends ? NONE : n;
        }

        /** Whether the code at place p goes on with what stands ahead of it, which is faultless. */
        private static boolean goesOn(Sheet row, int i, int p) {
            int code = row.at(i + p);
            if (p == 0) {
                return code == 'g';
            }
            if (p < HEAD) {
                return isDigit(code, '0', greatestDigit(row, i, p));
            }
            if (p >= HEAD + PER_BLOCK * MOST_BLOCKS) {
                return false;
            }
            switch ((p - HEAD) % PER_BLOCK) {
                case 0: return code == ';';
                case 1: return kindBy(code) != NONE;
                case 4: return isDigit(code, '1', '4');
                default: return isDigit(code, '0', '7');
            }
        }

        /** Of digit p of LAW: only behind 2, and behind 25, not every digit keeps it below 256. */
        private static int greatestDigit(Sheet row, int i, int p) {
            if (p == 1) {
                return '2';
            }
            boolean greatestYet = row.at(i + 1) == '2' && (p == 2 || row.at(i + 2) == '5');
            return greatestYet ? '5' : '9';
        }

        private static boolean isDigit(int code, int least, int greatest) {
            return code >= least && code <= greatest;
        }

        private static int kindBy(int letter) {
            switch (letter) {
                case 'b': return BUST;
                case 'n': return NYMPH;
                case 'h': return HORSE;
                default: return NONE;
            }
        }

        private static int digitAt(Sheet row, int place) {
            return row.at(place) - '0';
        }

        private static int placeOf(int i, int k) {
            return i + HEAD + PER_BLOCK * k;
        }

        static int lawOf(Sheet row, int i) {
            return 100 * digitAt(row, i + 1) + 10 * digitAt(row, i + 2) + digitAt(row, i + 3);
        }

        static int blocksIn(int n) {
            return (n - HEAD) / PER_BLOCK;
        }

        static int kindOf(Sheet row, int i, int k) {
            return kindBy(row.at(placeOf(i, k) + 1));
        }

        static int shapeOf(Sheet row, int i, int k) {
            return 8 * digitAt(row, placeOf(i, k) + 2) + digitAt(row, placeOf(i, k) + 3);
        }

        static int paceOf(Sheet row, int i, int k) {
            return digitAt(row, placeOf(i, k) + 4);
        }
    }
}
