/** Questions that several tests ask; the prices that are told of them are worked out by hand. */
final class Questions {
    static final int NONE = -1;
    static final int BAD = -2;
    static final int STATE = -3;
    static final int FULL = -4;
    static final long NO = Long.MIN_VALUE;
    static final int LOW = Integer.MIN_VALUE;
    static final int HIGH = Integer.MAX_VALUE;

    private Questions() {
    }

    static PlanCabinet tables(int... rowCounts) {
        PlanCabinet c = new PlanCabinet();
        for (int t = 0; t < rowCounts.length; t++) {
            c.table();
            for (int row = 0; row < rowCounts[t]; row++) {
                c.row(t, row, 10 * row, 7);
            }
        }
        return c;
    }

    /** Of 2 and 3 rows with an OPEN share: NEST costs 5 + 6, DEALT 5 + 10, SORTED 5 + 15. */
    static PlanCabinet two() {
        PlanCabinet c = tables(2, 3);
        c.pair(0, 0, 1, 0, 0);
        return c;
    }

    /**
     * Three tables of 4 rows in a row, 0 - 1 OPEN and 1 - 2 a quarter. Sizes: of 0 and 1 together
     * 4x, of 1 and 2 together 4. Keen are 28 + 16x and from 1 on 44.
     */
    static PlanCabinet three() {
        PlanCabinet c = tables(4, 4, 4);
        c.pair(0, 0, 1, 0, 0);
        c.pair(1, 0, 2, 0, 1);
        return c;
    }

    /** Keen are 16 + 8x and from 8/3 on 32 + 2x: greatest regrets 48 / 40 and 32 / 16. */
    static PlanCabinet wide() {
        PlanCabinet c = tables(2, 2, 8);
        c.pair(0, 0, 1, 0, 0);
        c.pair(1, 0, 2, 0, 4);
        return c;
    }

    /** Keen are 21 + 14x, from 7/5 on 35 + 4x and from 7/2 on 49. */
    static PlanCabinet threeSpans() {
        PlanCabinet c = tables(2, 4, 7);
        c.pair(0, 0, 1, 0, 0);
        c.pair(1, 0, 2, 0, 1);
        return c;
    }

    /** With the order of 0, 0 keen are 28 + 28x and from 6/7 on 52, which is IN ORDER. */
    static PlanCabinet threeInOrder() {
        PlanCabinet c = three();
        c.order(0, 0);
        return c;
    }

    /** Keen are 21 + 15x and from 1 on 27 + 9x: greatest regrets 81 / 63 and 27 / 21, alike. */
    static PlanCabinet blindAlike() {
        PlanCabinet c = tables(4, 3, 2);
        c.pair(0, 0, 1, 0, 0);
        c.pair(1, 0, 2, 0, 2);
        c.order(1, 1);
        return c;
    }

    /**
     * Keen are 50 + 96x, from 2/9 on 66 + 24x and from 1 on 90: greatest regrets 434 / 90,
     * 162 / 90 and 90 / 50, the last two alike.
     */
    static PlanCabinet blindAlikeBehind() {
        PlanCabinet c = tables(6, 8, 8);
        c.pair(0, 0, 1, 0, 0);
        c.pair(0, 0, 2, 0, 1);
        return c;
    }

    /** Keen are 36 + 21x, from 6/7 on 42 + 14x, with the regret 7 / 6 at 0 and 4, from 3 on 84. */
    static PlanCabinet worstAlike() {
        PlanCabinet c = tables(7, 3, 4);
        c.pair(0, 0, 1, 0, 4);
        c.pair(0, 0, 2, 0, 0);
        return c;
    }

    /** Four tables of 8 rows, in a row; all columns 2 are alike. */
    static PlanCabinet greatest() {
        PlanCabinet c = tables(8, 8, 8, 8);
        c.pair(0, 2, 1, 2, 4);
        c.pair(1, 2, 2, 2, 4);
        c.pair(2, 2, 3, 2, 4);
        return c;
    }

    /** Four tables, four pairings, all tables and pairings that there can be; 1 - 2 is OPEN. */
    static PlanCabinet ring() {
        PlanCabinet c = tables(2, 3, 2, 1);
        c.pair(0, 2, 1, 2, 2);
        c.pair(1, 2, 2, 2, 0);
        c.pair(2, 2, 3, 2, 3);
        c.pair(0, 2, 3, 2, 4);
        return c;
    }

    /** Rows (value, number): table 0: 3 1 2 1, table 1: 1 2 3 1. */
    static PlanCabinet mixed() {
        PlanCabinet c = new PlanCabinet();
        c.table();
        c.table();
        int[] low = {3, 1, 2, 1};
        int[] high = {1, 2, 3, 1};
        for (int row = 0; row < 4; row++) {
            c.row(0, low[row], row % 2, -row);
            c.row(1, high[row], row % 2, -row);
        }
        c.pair(0, 0, 1, 0, 2);
        return c;
    }

    /** A plan's number is then its table's. */
    static PlanCabinet readAll(PlanCabinet c) {
        int tables = c.count(0);
        for (int t = 0; t < tables; t++) {
            c.read(t);
        }
        return c;
    }

    static PlanCabinet fillPlans(PlanCabinet c) {
        for (int i = c.count(3); i < 60; i++) {
            c.read(0);
        }
        return c;
    }
}
