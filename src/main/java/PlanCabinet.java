/**
 * Ways to work a question over tables, priced with one share that is not known yet: the plans,
 * the cheapest ones, how wrong a plan can turn out to be, and plans really run.
 */
public final class PlanCabinet {
    public static final int NONE = -1, BAD = -2, STATE = -3, FULL = -4;
    public static final long NO = Long.MIN_VALUE;

    private static final int TABLES = 4;
    private static final int SETS = 1 << TABLES;
    private static final int ROWS = 8;
    private static final int ROW_BITS = 3;
    private static final int ROW_MASK = ROWS - 1;
    private static final int COLUMNS = 3;
    private static final int PAIRINGS = 4;
    private static final int QUARTERS = 4;
    private static final int PLANS = 60;

    private static final int NEST = 0;
    private static final int DEALT = 1;
    private static final int SORTED = 2;
    private static final int KINDS = 3;
    private static final int DEALT_FACTOR = 2;
    private static final int SORTED_FACTOR = 3;

    private static final int JOIN_MARK = 4;
    private static final int CODE_BITS = 3;
    private static final int CODE_MASK = 7;

    // Four quartered shares at most stand in a SIZE, so that in parts of 4^4 all is whole.
    private static final int PARTS = 256;
    private static final int POINTS = 33;
    private static final int POINTS_TO_ONE = 8;
    private static final long ALL_POINTS = (1L << POINTS) - 1;
    private static final int X_END = 4;
    private static final int HUNDRED = 100;
    private static final int MOST_HUNDREDTHS = 10000;
    private static final int MOST_SPANS_TO_COVER = 16;

    // Between two BORDERS no SIZE is 0, so that below the last JOIN a SORTED one is never cheapest,
    // and left and right cost alike: 10 trees (four tables in a ring) times 2 * 2 * 3 kinds of
    // JOINS are all the lines that can have a SPAN.
    private static final int MOST_SPANS = 120;
    private static final int SPAN_SEARCHES = 2 * MOST_SPANS;
    private static final int EUCLID_ROUNDS = 200;

    private static final int ANY_SLOPE = 0;
    private static final int LEAST_SLOPE = -1;
    private static final int GREATEST_SLOPE = 1;

    private final Question question;
    private final Prices prices;
    private final Chooser chooser;
    private final Spans spans;
    private final Runner runner;
    private final Plan[] plans;
    private int planCount;
    private boolean measured;
    private boolean spansTold;

    public PlanCabinet() {
        question = new Question();
        prices = new Prices(question);
        chooser = new Chooser(question, prices);
        spans = new Spans(chooser);
        runner = new Runner(question);
        plans = new Plan[PLANS];
    }

    // ---- the question

    public int table() {
        if (planCount > 0) {
            return STATE;
        }
        if (question.tableCount >= TABLES) {
            return FULL;
        }
        forgetPrices();
        return question.addTable();
    }

    public int row(int t, int a, int b, int c) {
        if (!question.isTable(t)) {
            return NONE;
        }
        if (planCount > 0) {
            return STATE;
        }
        if (question.rowsOf(t) >= ROWS) {
            return FULL;
        }
        forgetPrices();
        return question.addRow(t, a, b, c);
    }

    public int pair(int t, int column, int u, int other, int share) {
        if (!question.isField(t, column) || !question.isField(u, other)) {
            return NONE;
        }
        if (u <= t || share < 0 || share > QUARTERS) {
            return BAD;
        }
        if (planCount > 0 || (share == 0 && question.openPairing != NONE)) {
            return STATE;
        }
        if (question.pairingCount >= PAIRINGS) {
            return FULL;
        }
        forgetPrices();
        return question.addPairing(t, column, u, other, share);
    }

    public int order(int t, int column) {
        boolean none = t == NONE;
        if (!none && !question.isField(t, column)) {
            return NONE;
        }
        if (planCount > 0) {
            return STATE;
        }
        forgetPrices();
        question.orderTable = t;
        question.orderColumn = none ? 0 : column;
        return 0;
    }

    public int clear() {
        int gone = planCount;
        for (int i = 0; i < PLANS; i++) {
            plans[i] = null;
        }
        planCount = 0;
        return gone;
    }

    // ---- plans

    public int read(int t) {
        if (!question.isTable(t)) {
            return NONE;
        }
        if (!question.isWhole()) {
            return STATE;
        }
        if (planCount >= PLANS) {
            return FULL;
        }
        measure();
        return keep(prices.reading(t));
    }

    public int join(int kind, int left, int right) {
        Plan first = planAt(left);
        Plan second = planAt(right);
        if (first == null || second == null) {
            return NONE;
        }
        if (kind < 0 || kind >= KINDS) {
            return BAD;
        }
        if ((first.set & second.set) != 0 || question.leastBetween(first.set, second.set) == NONE) {
            return STATE;
        }
        if (planCount >= PLANS) {
            return FULL;
        }
        return keep(prices.joining(kind, first, second));
    }

    public int code(int plan, int i) {
        Plan asked = planAt(plan);
        if (asked == null || i < 0 || i >= asked.codeLength()) {
            return NONE;
        }
        return asked.codeNumber(i);
    }

    public int about(int plan, int what) {
        Plan asked = planAt(plan);
        if (asked == null) {
            return NONE;
        }
        switch (what) {
            case 0: return asked.set;
            case 1: return Integer.bitCount(asked.set) - 1;
            case 2: return asked.inOrder ? 1 : 0;
            case 3: return asked.set == question.allTables() ? 1 : 0;
            default: return NONE;
        }
    }

    public long price(int plan, int what) {
        Plan asked = planAt(plan);
        if (asked == null) {
            return NO;
        }
        switch (what) {
            case 0: return asked.a;
            case 1: return asked.b;
            case 2: return prices.sizeA(asked.set);
            case 3: return prices.sizeB(asked.set);
            default: return NO;
        }
    }

    // ---- the best

    public int best(int point) {
        if (!isPoint(point)) {
            return NONE;
        }
        if (!question.isWhole()) {
            return STATE;
        }
        if (planCount >= PLANS) {
            return FULL;
        }
        measure();
        return keep(chooser.cheapest(point, POINTS_TO_ONE, ANY_SLOPE));
    }

    public int spans() {
        return tellSpans() ? spans.count : STATE;
    }

    public long border(int i, int what) {
        if (!tellSpans() || i < 0 || i >= spans.count) {
            return NO;
        }
        switch (what) {
            case 0: return spans.borderAbove(i);
            case 1: return spans.borderBelow(i);
            case 2: return spans.borderAbove(i + 1);
            case 3: return spans.borderBelow(i + 1);
            default: return NO;
        }
    }

    public int keen(int i) {
        // How many SPANS there are is known of a WHOLE question alone.
        if (i < 0) {
            return NONE;
        }
        if (!tellSpans()) {
            return STATE;
        }
        if (i >= spans.count) {
            return NONE;
        }
        if (planCount >= PLANS) {
            return FULL;
        }
        return keep(spans.planOf(i));
    }

    public int near(int plan, int point, int d) {
        Plan asked = planAt(plan);
        if (asked == null || !isPoint(point)) {
            return NONE;
        }
        if (!areHundredths(d)) {
            return BAD;
        }
        if (asked.set != question.allTables() || !tellSpans()) {
            return STATE;
        }
        return spans.isNear(asked, point, d) ? 1 : 0;
    }

    public int worst(int plan) {
        Plan asked = planAt(plan);
        if (asked == null) {
            return NONE;
        }
        if (asked.set != question.allTables() || !tellSpans()) {
            return STATE;
        }
        return spans.worstPoint(asked);
    }

    public int blind() {
        return tellSpans() ? spans.leastWrong() : STATE;
    }

    public int cover(int d) {
        if (!areHundredths(d)) {
            return BAD;
        }
        if (!tellSpans() || spans.count > MOST_SPANS_TO_COVER) {
            return STATE;
        }
        return spans.fewestNear(d);
    }

    // ---- runs

    public int run(int plan) {
        Plan asked = planAt(plan);
        return asked == null ? NONE : runner.work(asked);
    }

    public int steps() {
        return runner.stepCount;
    }

    public int out(int i, int t) {
        return runner.rowOf(i, t);
    }

    public int holds(int pairing) {
        return question.isPairing(pairing) ? question.matches(pairing) : NONE;
    }

    public int count(int what) {
        switch (what) {
            case 0: return question.tableCount;
            case 1: return question.allRows();
            case 2: return question.pairingCount;
            case 3: return planCount;
            case 4: return question.openPairing;
            case 5: return question.isWhole() ? 1 : 0;
            case 6: return question.isWhole() ? chooser.wholePlans() : 0;
            default: return NONE;
        }
    }

    // ---- helpers

    private static boolean isPoint(int point) {
        return point >= 0 && point < POINTS;
    }

    private static boolean areHundredths(int d) {
        return d >= 0 && d <= MOST_HUNDREDTHS;
    }

    private Plan planAt(int plan) {
        return plan < 0 || plan >= planCount || plan >= PLANS ? null : plans[plan];
    }

    /** Keeps a plan under the next number; the caller has asked for room. */
    private int keep(Plan plan) {
        if (plan == null || planCount >= PLANS) {
            return FULL;
        }
        plans[planCount] = plan;
        planCount++;
        return planCount - 1;
    }

    private void forgetPrices() {
        measured = false;
        spansTold = false;
    }

    private void measure() {
        if (!measured) {
            prices.measure();
            measured = true;
        }
    }

    /** Whether there are SPANS; if so, they are at hand afterwards. */
    private boolean tellSpans() {
        if (!question.isWhole()) {
            return false;
        }
        if (!spansTold) {
            measure();
            spans.find();
            spansTold = true;
        }
        return true;
    }

    /** The tables with their rows, the pairings and the order. */
    private static final class Question {
        int tableCount;
        int pairingCount;
        int openPairing = NONE;
        int orderTable = NONE;
        int orderColumn;
        private final int[] rowCounts = new int[TABLES];
        private final int[] fields = new int[TABLES * ROWS * COLUMNS];
        private final int[] lowTable = new int[PAIRINGS];
        private final int[] lowColumn = new int[PAIRINGS];
        private final int[] highTable = new int[PAIRINGS];
        private final int[] highColumn = new int[PAIRINGS];
        private final int[] ends = new int[PAIRINGS];
        private final int[] quarters = new int[PAIRINGS];

        boolean isTable(int t) {
            return t >= 0 && t < tableCount && t < TABLES;
        }

        boolean isField(int t, int column) {
            return isTable(t) && column >= 0 && column < COLUMNS;
        }

        boolean isPairing(int p) {
            return p >= 0 && p < pairingCount && p < PAIRINGS;
        }

        int allTables() {
            return (1 << tableCount) - 1;
        }

        int rowsOf(int t) {
            return isTable(t) ? rowCounts[t] : 0;
        }

        int allRows() {
            int sum = 0;
            for (int t = 0; t < TABLES; t++) {
                sum += rowCounts[t];
            }
            return sum;
        }

        int field(int t, int row, int column) {
            if (t < 0 || t >= TABLES || row < 0 || row >= ROWS
                || column < 0 || column >= COLUMNS) {
                return 0;
            }
            return fields[(t * ROWS + row) * COLUMNS + column];
        }

        int addTable() {
            tableCount++;
            return tableCount - 1;
        }

        int addRow(int t, int a, int b, int c) {
            int row = rowsOf(t);
            if (!isTable(t) || row >= ROWS) {
                return FULL;
            }
            int at = (t * ROWS + row) * COLUMNS;
            fields[at] = a;
            fields[at + 1] = b;
            fields[at + 2] = c;
            rowCounts[t]++;
            return row;
        }

        int addPairing(int t, int column, int u, int other, int share) {
            int p = pairingCount;
            if (p >= PAIRINGS) {
                return FULL;
            }
            lowTable[p] = t;
            lowColumn[p] = column;
            highTable[p] = u;
            highColumn[p] = other;
            ends[p] = 1 << t | 1 << u;
            // An OPEN share is x times one quarter; the x is told by part B.
            quarters[p] = share == 0 ? 1 : share;
            if (share == 0) {
                openPairing = p;
            }
            pairingCount++;
            return p;
        }

        boolean isWhole() {
            for (int t = 0; t < tableCount; t++) {
                if (rowsOf(t) == 0) {
                    return false;
                }
            }
            return tableCount > 0 && joinedToFirst() == allTables();
        }

        private int joinedToFirst() {
            int reached = 1;
            // Each round reaches a table more, if one is left that can be reached.
            for (int round = 1; round < tableCount; round++) {
                for (int p = 0; p < PAIRINGS; p++) {
                    if ((ends[p] & reached) != 0) {
                        reached |= ends[p];
                    }
                }
            }
            return reached;
        }

        /** Whether both tables of a pairing are in a set. */
        boolean isInside(int p, int set) {
            return isPairing(p) && (ends[p] & set) == ends[p];
        }

        int quartersOf(int p) {
            return isPairing(p) ? quarters[p] : QUARTERS;
        }

        /** For sets that have no table in common. */
        boolean isBetween(int p, int left, int right) {
            return p >= 0 && p < PAIRINGS && (ends[p] & left) != 0 && (ends[p] & right) != 0;
        }

        int leastBetween(int left, int right) {
            for (int p = 0; p < PAIRINGS; p++) {
                if ((ends[p] & left) != 0 && (ends[p] & right) != 0) {
                    return p;
                }
            }
            return NONE;
        }

        /** The pairing's table that is in a set of which only one of the two is. */
        int tableOn(int p, int set) {
            if (!isPairing(p)) {
                return NONE;
            }
            return (set >> lowTable[p] & 1) != 0 ? lowTable[p] : highTable[p];
        }

        int columnOn(int p, int set) {
            if (!isPairing(p)) {
                return NONE;
            }
            return (set >> lowTable[p] & 1) != 0 ? lowColumn[p] : highColumn[p];
        }

        /** Of a join of which this is the least pairing between both parts. */
        boolean isInOrder(int kind, int p) {
            if (kind != SORTED || orderTable == NONE || p < 0 || p >= PAIRINGS) {
                return false;
            }
            return (lowTable[p] == orderTable && lowColumn[p] == orderColumn)
                || (highTable[p] == orderTable && highColumn[p] == orderColumn);
        }

        /** How often the number of combinations is paid at a plan's end. */
        int orderFactor(int set, boolean inOrder) {
            boolean whole = set == (1 << tableCount) - 1;
            return whole && orderTable != NONE && !inOrder ? SORTED_FACTOR : 0;
        }

        /** Whether a pairing holds for a combination that has rows of both its tables. */
        boolean isHeld(int p, int combination) {
            if (p < 0 || p >= PAIRINGS) {
                return false;
            }
            int lowRow = rowIn(combination, lowTable[p]);
            int highRow = rowIn(combination, highTable[p]);
            return field(lowTable[p], lowRow, lowColumn[p])
                == field(highTable[p], highRow, highColumn[p]);
        }

        int matches(int p) {
            int found = 0;
            if (isPairing(p)) {
                for (int low = 0; low < rowsOf(lowTable[p]); low++) {
                    for (int high = 0; high < rowsOf(highTable[p]); high++) {
                        int both = asPart(low, lowTable[p]) | asPart(high, highTable[p]);
                        found += isHeld(p, both) ? 1 : 0;
                    }
                }
            }
            return found;
        }

        /** A combination has the row of table t in three bits of its own; all others are 0. */
        static int asPart(int row, int t) {
            return row << ROW_BITS * t;
        }

        static int rowIn(int combination, int t) {
            return combination >> ROW_BITS * t & ROW_MASK;
        }
    }

    /** One plan; its code stands in one number, so that FIRST is the lesser of one set's codes. */
    private static final class Plan {
        final int set;
        final int packedCode;
        final long a;
        final long b;
        final boolean inOrder;

        Plan(int set, int packedCode, long a, long b, boolean inOrder) {
            this.set = set;
            this.packedCode = packedCode;
            this.a = a;
            this.b = b;
            this.inOrder = inOrder;
        }

        int codeLength() {
            return 2 * Integer.bitCount(set) - 1;
        }

        int codeNumber(int i) {
            return packedCode >> CODE_BITS * (codeLength() - 1 - i) & CODE_MASK;
        }

        /** The price at a point, in parts that are the same for all plans and points. */
        long priceAt(int point) {
            return a * POINTS_TO_ONE + b * point;
        }

        /** Whether another plan is cheaper at x = above / below. */
        boolean isDearer(Plan other, long above, long below) {
            return other != null && other.a * below + other.b * above < a * below + b * above;
        }

        boolean hasLineOf(Plan other) {
            return other != null && a == other.a && b == other.b;
        }

        static int joinedCode(int kind, int left, int leftCode, int right, int rightCode) {
            int rightBits = CODE_BITS * (2 * Integer.bitCount(right) - 1);
            int leftBits = CODE_BITS * (2 * Integer.bitCount(left) - 1);
            return (JOIN_MARK + kind) << leftBits + rightBits | leftCode << rightBits | rightCode;
        }
    }

    /** Sizes of all sets, and what reads, joins and the order cost; part A, and part B for x. */
    private static final class Prices {
        private final Question question;
        private final long[] sizesA = new long[SETS];
        private final long[] sizesB = new long[SETS];

        Prices(Question question) {
            this.question = question;
        }

        void measure() {
            for (int set = 0; set < SETS; set++) {
                long size = sizeWithoutX(set);
                boolean open = question.isInside(question.openPairing, set);
                sizesA[set] = open ? 0 : size;
                sizesB[set] = open ? size : 0;
            }
        }

        private long sizeWithoutX(int set) {
            long size = PARTS;
            for (int t = 0; t < TABLES; t++) {
                if ((set >> t & 1) != 0) {
                    size *= question.rowsOf(t);
                }
            }
            for (int p = 0; p < question.pairingCount; p++) {
                if (question.isInside(p, set)) {
                    size = size / QUARTERS * question.quartersOf(p);
                }
            }
            return size;
        }

        long sizeA(int set) {
            return set < 0 || set >= SETS ? 0 : sizesA[set];
        }

        long sizeB(int set) {
            return set < 0 || set >= SETS ? 0 : sizesB[set];
        }

        long joinA(int kind, int left, int right) {
            if (left < 0 || left >= SETS || right < 0 || right >= SETS) {
                return 0;
            }
            if (kind == NEST) {
                return sizesA[left] * sizesA[right] / PARTS;
            }
            long factor = kind == DEALT ? DEALT_FACTOR : SORTED_FACTOR;
            return factor * (sizesA[left] + sizesA[right]);
        }

        long joinB(int kind, int left, int right) {
            if (left < 0 || left >= SETS || right < 0 || right >= SETS) {
                return 0;
            }
            if (kind == NEST) {
                // The OPEN pairing is inside one of both at most: there is no part of x times x.
                return (sizesA[left] * sizesB[right] + sizesB[left] * sizesA[right]) / PARTS;
            }
            long factor = kind == DEALT ? DEALT_FACTOR : SORTED_FACTOR;
            return factor * (sizesB[left] + sizesB[right]);
        }

        long readA(int set) {
            return sizeA(set) * (1 + question.orderFactor(set, false));
        }

        Plan reading(int t) {
            int set = 1 << t;
            return new Plan(set, t, readA(set), 0, false);
        }

        Plan joining(int kind, Plan left, Plan right) {
            int set = left.set | right.set;
            int p = question.leastBetween(left.set, right.set);
            boolean inOrder = question.isInOrder(kind, p);
            long atEnd = question.orderFactor(set, inOrder);
            long a = left.a + right.a + joinA(kind, left.set, right.set) + atEnd * sizeA(set);
            long b = left.b + right.b + joinB(kind, left.set, right.set) + atEnd * sizeB(set);
            int code =
                Plan.joinedCode(kind, left.set, left.packedCode, right.set, right.packedCode);
            return new Plan(set, code, a, b, inOrder);
        }
    }

    /**
     * Finds the cheapest plan of each set at one x from those of its parts. What a join adds is
     * told by the sets alone, so a cheapest plan, and the FIRST of several, has such parts.
     */
    private static final class Chooser {
        private final Question question;
        private final Prices prices;
        private final long[] a = new long[SETS];
        private final long[] b = new long[SETS];
        private final int[] codes = new int[SETS];
        private final boolean[] inOrder = new boolean[SETS];
        private final int[] ways = new int[SETS];
        private long above;
        private long below;
        private int slope;

        Chooser(Question question, Prices prices) {
            this.question = question;
            this.prices = prices;
        }

        /** The whole plan that is cheapest at x = above / below; of several by slope, then FIRST. */
        Plan cheapest(long above, long below, int slope) {
            this.above = above;
            this.below = below;
            this.slope = slope;
            int all = question.allTables();
            for (int set = 0; set < SETS; set++) {
                codes[set] = NONE;
            }
            for (int t = 0; t < question.tableCount && t < TABLES; t++) {
                offerRead(t);
            }
            for (int set = 1; set <= all && set < SETS; set++) {
                offerJoins(set);
            }
            if (all <= 0 || all >= SETS || codes[all] == NONE) {
                return null;
            }
            return new Plan(all, codes[all], a[all], b[all], inOrder[all]);
        }

        private void offerRead(int t) {
            int set = 1 << t;
            a[set] = prices.readA(set);
            b[set] = 0;
            codes[set] = t;
            inOrder[set] = false;
        }

        private void offerJoins(int set) {
            for (int left = 1; left < set; left++) {
                int right = set ^ left;
                int p = (left & set) == left ? question.leastBetween(left, right) : NONE;
                if (p != NONE && codes[left] != NONE && codes[right] != NONE) {
                    offerJoin(NEST, left, right, p);
                    offerJoin(DEALT, left, right, p);
                    offerJoin(SORTED, left, right, p);
                }
            }
        }

        private void offerJoin(int kind, int left, int right, int p) {
            int set = left | right;
            boolean order = question.isInOrder(kind, p);
            long atEnd = question.orderFactor(set, order);
            long newA = a[left] + a[right] + prices.joinA(kind, left, right)
                + atEnd * prices.sizeA(set);
            long newB = b[left] + b[right] + prices.joinB(kind, left, right)
                + atEnd * prices.sizeB(set);
            int newCode = Plan.joinedCode(kind, left, codes[left], right, codes[right]);
            if (codes[set] == NONE || isBetter(newA, newB, newCode, set)) {
                a[set] = newA;
                b[set] = newB;
                codes[set] = newCode;
                inOrder[set] = order;
            }
        }

        private boolean isBetter(long newA, long newB, int newCode, int set) {
            long newPrice = newA * below + newB * above;
            long oldPrice = a[set] * below + b[set] * above;
            if (newPrice != oldPrice) {
                return newPrice < oldPrice;
            }
            if (slope != ANY_SLOPE && newB != b[set]) {
                return (newB > b[set]) == (slope == GREATEST_SLOPE);
            }
            return newCode < codes[set];
        }

        int wholePlans() {
            int all = question.allTables();
            for (int set = 1; set <= all && set < SETS; set++) {
                ways[set] = Integer.bitCount(set) == 1 ? 1 : 0;
                for (int left = 1; left < set; left++) {
                    int right = set ^ left;
                    if ((left & set) == left && question.leastBetween(left, right) != NONE) {
                        ways[set] += KINDS * ways[left] * ways[right];
                    }
                }
            }
            return all <= 0 || all >= SETS ? 0 : ways[all];
        }
    }

    /** The spans with their keen plans, and the regrets that are measured against these. */
    private static final class Spans {
        int count;
        private final Chooser chooser;
        private final Plan[] keenPlans = new Plan[MOST_SPANS];
        private final long[] bordersAbove = new long[MOST_SPANS + 1];
        private final long[] bordersBelow = new long[MOST_SPANS + 1];
        private final long[] leastPrices = new long[POINTS];
        private final long[] pointsNear = new long[MOST_SPANS_TO_COVER];

        Spans(Chooser chooser) {
            this.chooser = chooser;
        }

        Plan planOf(int i) {
            return i < 0 || i >= count || i >= MOST_SPANS ? null : keenPlans[i];
        }

        long borderAbove(int i) {
            return i < 0 || i > count || i > MOST_SPANS ? NO : bordersAbove[i];
        }

        long borderBelow(int i) {
            return i < 0 || i > count || i > MOST_SPANS ? NO : bordersBelow[i];
        }

        /**
         * Starts with the plans at both ends. Where the lines of two neighbours meet, either
         * nothing is cheaper and a border stands, or what is cheaper there has a span between.
         */
        void find() {
            count = 0;
            insert(0, chooser.cheapest(0, 1, LEAST_SLOPE));
            Plan last = chooser.cheapest(X_END, 1, GREATEST_SLOPE);
            if (last != null && !last.hasLineOf(planOf(0))) {
                insert(count, last);
            }
            int i = 0;
            for (int search = 0; search < SPAN_SEARCHES && i + 1 < count; search++) {
                Plan plan = planOf(i);
                Plan next = planOf(i + 1);
                if (plan == null || next == null) {
                    break;
                }
                long above = next.a - plan.a;
                long below = plan.b - next.b;
                // The least slope stays the cheapest one behind this x: no span is empty.
                Plan between = chooser.cheapest(above, below, LEAST_SLOPE);
                if (plan.isDearer(between, above, below) && insert(i + 1, between)) {
                    continue;
                }
                setBorder(i + 1, above, below);
                i++;
            }
            setBorder(0, 0, 1);
            setBorder(count, X_END, 1);
            findLeastPrices();
        }

        private boolean insert(int i, Plan plan) {
            if (plan == null || count >= MOST_SPANS || i < 0 || i > count) {
                return false;
            }
            for (int k = count; k > i; k--) {
                keenPlans[k] = keenPlans[k - 1];
            }
            keenPlans[i] = plan;
            count++;
            return true;
        }

        private void setBorder(int i, long above, long below) {
            long divisor = commonDivisor(above, below);
            if (i >= 0 && i <= MOST_SPANS && divisor > 0) {
                bordersAbove[i] = above / divisor;
                bordersBelow[i] = below / divisor;
            }
        }

        private static long commonDivisor(long a, long b) {
            long greater = a;
            long lesser = b;
            for (int round = 0; round < EUCLID_ROUNDS && lesser != 0; round++) {
                long rest = greater % lesser;
                greater = lesser;
                lesser = rest;
            }
            return greater;
        }

        /** At each point one of the keen plans is among the cheapest. */
        private void findLeastPrices() {
            for (int point = 0; point < POINTS; point++) {
                long least = Long.MAX_VALUE;
                for (int i = 0; i < count; i++) {
                    Plan plan = planOf(i);
                    if (plan != null) {
                        least = Math.min(least, plan.priceAt(point));
                    }
                }
                leastPrices[point] = least;
            }
        }

        private long leastAt(int point) {
            return isPoint(point) ? leastPrices[point] : 0;
        }

        boolean isNear(Plan plan, int point, int d) {
            return plan.priceAt(point) * HUNDRED <= leastAt(point) * (HUNDRED + d);
        }

        int worstPoint(Plan plan) {
            int worst = 0;
            for (int point = 1; point < POINTS; point++) {
                if (isRegretLess(plan, worst, plan, point)) {
                    worst = point;
                }
            }
            return worst;
        }

        private boolean isRegretLess(Plan plan, int point, Plan other, int otherPoint) {
            return plan.priceAt(point) * leastAt(otherPoint)
                < other.priceAt(otherPoint) * leastAt(point);
        }

        /** The span of the plan chosen blind. */
        int leastWrong() {
            int chosen = 0;
            for (int i = 1; i < count; i++) {
                Plan plan = planOf(i);
                Plan before = planOf(chosen);
                if (plan != null && before != null
                    && isRegretLess(plan, worstPoint(plan), before, worstPoint(before))) {
                    chosen = i;
                }
            }
            return chosen;
        }

        /** The cover as a set of spans; there are no more than can be tried in all sets. */
        int fewestNear(int d) {
            findPointsNear(d);
            int chosen = 0;
            int end = 1 << Math.min(count, MOST_SPANS_TO_COVER);
            for (int set = 1; set < end; set++) {
                if ((chosen == 0 || isSetBefore(set, chosen)) && isEnough(set)) {
                    chosen = set;
                }
            }
            return chosen;
        }

        private void findPointsNear(int d) {
            for (int i = 0; i < count && i < MOST_SPANS_TO_COVER; i++) {
                Plan plan = planOf(i);
                long points = 0;
                for (int point = 0; point < POINTS; point++) {
                    if (plan != null && isNear(plan, point, d)) {
                        points |= 1L << point;
                    }
                }
                pointsNear[i] = points;
            }
        }

        private static boolean isSetBefore(int set, int other) {
            int more = Integer.bitCount(set) - Integer.bitCount(other);
            if (more != 0) {
                return more < 0;
            }
            // Where two sets of as many plans first differ, the earlier plan's bit is the lower one.
            int differing = set ^ other;
            return (set & differing & -differing) != 0;
        }

        private boolean isEnough(int set) {
            long points = 0;
            for (int i = 0; i < count && i < MOST_SPANS_TO_COVER; i++) {
                if ((set >> i & 1) != 0) {
                    points |= pointsNear[i];
                }
            }
            return points == ALL_POINTS;
        }
    }

    /**
     * Runs plans. A code is worked from its end to its start, so that both parts of a join lie on
     * the stack, the left one on top, when the join's own number comes.
     */
    private static final class Runner {
        int stepCount;
        private final Question question;
        private int[] stack = new int[0];
        private int[] joined = new int[0];
        private final int[] starts = new int[TABLES + 1];
        private final int[] sets = new int[TABLES];
        private final int[] ranks = new int[ROWS];
        private final int[] places = new int[ROWS + 1];
        private final int[] between = new int[PAIRINGS];
        private int betweenCount;
        private int depth;
        private int resultSet;
        private int resultCount;

        Runner(Question question) {
            this.question = question;
        }

        int work(Plan plan) {
            makeRoom();
            stepCount = 0;
            depth = 0;
            for (int i = plan.codeLength() - 1; i >= 0; i--) {
                int number = plan.codeNumber(i);
                if (number < JOIN_MARK) {
                    pushRows(number);
                } else {
                    joinTopTwo(number - JOIN_MARK);
                }
            }
            resultSet = plan.set;
            resultCount = starts[1];
            int atEnd = question.orderFactor(plan.set, plan.inOrder);
            if (atEnd > 0) {
                sort(0, resultCount, question.orderTable, question.orderColumn);
                stepCount += atEnd * resultCount;
            }
            return resultCount;
        }

        int rowOf(int i, int t) {
            if (i < 0 || i >= resultCount || i >= stack.length || t < 0 || t >= TABLES) {
                return NONE;
            }
            return (resultSet >> t & 1) == 0 ? NONE : Question.rowIn(stack[i], t);
        }

        /** Sets without a common table have no more combinations than all tables, but for a few. */
        private void makeRoom() {
            int most = 1;
            for (int t = 0; t < question.tableCount; t++) {
                most *= Math.max(1, question.rowsOf(t));
            }
            if (joined.length < most) {
                stack = new int[most + TABLES];
                joined = new int[most];
            }
        }

        private void pushRows(int t) {
            int rows = question.rowsOf(t);
            int from = starts[Math.min(depth, TABLES)];
            if (depth >= TABLES || from + rows > stack.length) {
                return;
            }
            for (int row = 0; row < rows; row++) {
                stack[from + row] = Question.asPart(row, t);
            }
            sets[depth] = 1 << t;
            depth++;
            starts[depth] = from + rows;
            stepCount += rows;
        }

        private void joinTopTwo(int kind) {
            if (depth < 2 || depth > TABLES) {
                return;
            }
            int left = sets[depth - 1];
            int right = sets[depth - 2];
            findBetween(left, right);
            int rightFrom = starts[depth - 2];
            int leftFrom = starts[depth - 1];
            int leftTo = starts[depth];
            stepCount += joinSteps(kind, leftTo - leftFrom, leftFrom - rightFrom);
            if (kind == SORTED) {
                // What is joined to a left one has its value: to sort the left ones sorts all.
                int p = between[0];
                sort(leftFrom, leftTo, question.tableOn(p, left), question.columnOn(p, left));
            }
            int found = combine();
            depth--;
            sets[depth - 1] = left | right;
            if (found <= joined.length && rightFrom + found <= stack.length) {
                System.arraycopy(joined, 0, stack, rightFrom, found);
                starts[depth] = rightFrom + found;
            }
        }

        private static int joinSteps(int kind, int lefts, int rights) {
            if (kind == NEST) {
                return lefts * rights;
            }
            return (kind == DEALT ? DEALT_FACTOR : SORTED_FACTOR) * (lefts + rights);
        }

        /** Writes the combinations of the two topmost parts for which all between them holds. */
        private int combine() {
            int found = 0;
            for (int i = starts[depth - 1]; i < starts[depth]; i++) {
                for (int k = starts[depth - 2]; k < starts[depth - 1]; k++) {
                    int combination = stack[i] | stack[k];
                    if (found < joined.length && isHeldBetween(combination)) {
                        joined[found] = combination;
                        found++;
                    }
                }
            }
            return found;
        }

        /** Kept for a whole join, which asks for them at each combination. */
        private void findBetween(int left, int right) {
            betweenCount = 0;
            for (int p = 0; p < PAIRINGS; p++) {
                if (question.isBetween(p, left, right)) {
                    between[betweenCount] = p;
                    betweenCount++;
                }
            }
        }

        private boolean isHeldBetween(int combination) {
            for (int i = 0; i < betweenCount && i < PAIRINGS; i++) {
                if (!question.isHeld(between[i], combination)) {
                    return false;
                }
            }
            return true;
        }

        /** Sorts a part of the stack by one column; those alike stay as they were. */
        private void sort(int from, int to, int t, int column) {
            if (!question.isField(t, column) || from < 0 || to > stack.length
                || to - from > joined.length) {
                return;
            }
            findRanks(t, column);
            for (int rank = 0; rank <= ROWS; rank++) {
                places[rank] = 0;
            }
            for (int i = from; i < to; i++) {
                places[ranks[Question.rowIn(stack[i], t)] + 1]++;
            }
            for (int rank = 1; rank <= ROWS; rank++) {
                places[rank] += places[rank - 1];
            }
            for (int i = from; i < to; i++) {
                int rank = ranks[Question.rowIn(stack[i], t)];
                joined[places[rank]] = stack[i];
                places[rank]++;
            }
            System.arraycopy(joined, 0, stack, from, Math.max(0, to - from));
        }

        /** A row's rank: how many rows of its table have a lesser value there. */
        private void findRanks(int t, int column) {
            for (int row = 0; row < ROWS; row++) {
                int rank = 0;
                for (int other = 0; other < question.rowsOf(t); other++) {
                    if (question.field(t, other, column) < question.field(t, row, column)) {
                        rank++;
                    }
                }
                ranks[row] = Math.min(rank, ROWS - 1);
            }
        }
    }
}
