/** A test for each sentence with a boundary: what runs give, and promises 20 to 24. */
public final class BoundsOfRunsTest {
    private static final int NONE = Questions.NONE;
    private static final int LOW = Questions.LOW;
    private static final int HIGH = Questions.HIGH;

    public static void main(String[] args) {
        readGivesRowsByNumber();
        nestAndDealtKeepTheOrder();
        allPairingsBetweenHold();
        sortedRises();
        sortedLeavesThoseAlike();
        sortedWhateverTheTables();
        sortedByTheLeastPairing();
        stepsAreOfCombinations();
        orderIsRisingAtTheEnd();
        orderLeavesThoseAlike();
        inOrderTakesNoSteps();
        runOfNoPlan();
        runOfNoCombination();
        runOfAllCombinations();
        runOfAGrownQuestion();
        stepsWithoutARun();
        stepsOfTheLatestRun();
        outWithoutARun();
        outOfNone();
        outOfTablesOutside();
        holdsOfNoPairing();
        holdsOfNoneAndAll();
        countOfNone();
        countOfEmptyAndFull();
        callsAreFiveHundredAndTwelve();
        Check.end("BoundsOfRunsTest");
    }

    /** The rows of all tables of the latest run, a number of them for each combination. */
    private static void outIs(PlanCabinet c, int tables, int... rows) {
        for (int k = 0; k < rows.length; k++) {
            Check.due("out " + k / tables + ", " + k % tables, rows[k],
                c.out(k / tables, k % tables));
        }
        Check.due("behind the last one", NONE, c.out(rows.length / tables, 0));
    }

    /** Two tables; column 0 holds the values, 1 what is the same everywhere. */
    private static PlanCabinet ofValues(int[] low, int[] high) {
        PlanCabinet c = Questions.tables(0, 0);
        for (int value : low) {
            c.row(0, value, 0, -value);
        }
        for (int value : high) {
            c.row(1, value, 0, -value);
        }
        return c;
    }

    // ---- Terms

    private static void readGivesRowsByNumber() {
        Check.sentence("READ: ROWS by number, a STEP for each");
        PlanCabinet c = ofValues(new int[] {5, 3, 4, 3, 1, 9, 0, 2}, new int[] {7});
        c.pair(0, 0, 1, 0, 1);
        c.order(0, 0);
        Questions.readAll(c);
        Check.due("eight rows", 8, c.run(0));
        for (int row = 0; row < 8; row++) {
            Check.due("by number", row, c.out(row, 0));
        }
        Check.due("eight steps", 8, c.steps());
        Check.due("one row", 1, c.run(1));
        Check.due("one step", 1, c.steps());
        Check.due("its row", 0, c.out(0, 1));
    }

    private static void nestAndDealtKeepTheOrder() {
        Check.sentence("for each of the left ones in order each of the right ones in order");
        PlanCabinet c = Questions.readAll(Questions.mixed());
        for (int kind = 0; kind < 2; kind++) {
            c.join(kind, 0, 1);
            c.join(kind, 1, 0);
            Check.due("left 0", 6, c.run(2 + 2 * kind));
            outIs(c, 2, 0, 2, 1, 0, 1, 3, 2, 1, 3, 0, 3, 3);
            Check.due("left 1", 6, c.run(3 + 2 * kind));
            outIs(c, 2, 1, 0, 3, 0, 2, 1, 0, 2, 1, 3, 3, 3);
        }
    }

    private static void allPairingsBetweenHold() {
        Check.sentence("if all PAIRINGS between hold");
        PlanCabinet c = ofValues(new int[] {1, 1, 2}, new int[] {1, 2, 2});
        c.table();
        c.row(2, 1, 0, -2);
        c.row(2, 2, 1, -1);
        c.pair(0, 0, 1, 0, 1);
        c.pair(0, 0, 2, 0, 1);
        c.pair(1, 1, 2, 1, 1);
        c.pair(1, 2, 2, 2, 1);
        Questions.readAll(c);
        c.join(0, 0, 1);
        Check.due("0 and 1: one pairing", 4, c.run(3));
        outIs(c, 2, 0, 0, 1, 0, 2, 1, 2, 2);
        c.join(0, 0, 2);
        Check.due("0 and 2: one pairing", 3, c.run(4));
        c.join(0, 1, 2);
        // Column 2 of row 0 is -1 against -2; rows 1, 2 are -2 with columns 1 alike.
        Check.due("1 and 2: two pairings", 2, c.run(5));
        c.join(0, 3, 2);
        Check.due("0 1 and 2: three pairings", 0, c.run(6));
    }

    private static void sortedRises() {
        Check.sentence("SORTED: .. in rising order of what the least PAIRING between has");
        int[] values = {HIGH, 0, LOW, 1, -1, HIGH - 1, LOW + 1, 256};
        PlanCabinet c = ofValues(values, values);
        c.pair(0, 0, 1, 0, 1);
        Questions.readAll(c);
        c.join(2, 0, 1);
        c.join(2, 1, 0);
        for (int plan = 2; plan < 4; plan++) {
            Check.due("from LOW to HIGH", 8, c.run(plan));
            outIs(c, 2, 2, 2, 6, 6, 4, 4, 1, 1, 3, 3, 7, 7, 5, 5, 0, 0);
        }
        PlanCabinet sides = ofValues(new int[] {1, 2}, new int[] {-1, -2});
        sides.pair(0, 2, 1, 0, 1);
        Questions.readAll(sides);
        sides.join(2, 0, 1);
        Check.due("-2 before -1, columns that differ", 2, sides.run(2));
        outIs(sides, 2, 1, 1, 0, 0);
    }

    private static void sortedLeavesThoseAlike() {
        Check.sentence("SORTED: .. those alike as they were");
        PlanCabinet c = Questions.readAll(Questions.mixed());
        c.join(2, 0, 1);
        Check.due("left 0", 6, c.run(2));
        outIs(c, 2, 1, 0, 1, 3, 3, 0, 3, 3, 2, 1, 0, 2);
        c.join(2, 1, 0);
        Check.due("left 1", 6, c.run(3));
        outIs(c, 2, 1, 0, 3, 0, 1, 3, 3, 3, 2, 1, 0, 2);
        PlanCabinet all = ofValues(new int[] {4, 4}, new int[] {4, 4, 4});
        all.pair(0, 0, 1, 0, 1);
        Questions.readAll(all);
        all.join(2, 0, 1);
        Check.due("all alike", 6, all.run(2));
        outIs(all, 2, 0, 0, 0, 1, 0, 2, 1, 0, 1, 1, 1, 2);
    }

    private static void sortedWhateverTheTables() {
        Check.sentence("what the least PAIRING between has (of each TABLE with each)");
        for (int t = 0; t < 3; t++) {
            for (int u = t + 1; u < 4; u++) {
                PlanCabinet c = fourAround(t, u);
                int other = c.join(0, t == 0 ? (u == 1 ? 2 : 1) : 0, t);
                int[] plans = {c.join(2, t, u), c.join(2, u, t), c.join(2, other, u), c.join(2, u, other)};
                for (int plan : plans) {
                    Check.due(t + " with " + u, 3, c.run(plan));
                    for (int i = 0; i < 3; i++) {
                        Check.due(t + " with " + u + ", low row", (i + 1) % 3, c.out(i, t));
                        Check.due(t + " with " + u + ", high row", (i + 2) % 3, c.out(i, u));
                    }
                }
            }
        }
    }

    /** Table t has 3 1 2 in column 0, u has 2 3 1 in column 1; the others have a row for each. */
    private static PlanCabinet fourAround(int t, int u) {
        PlanCabinet c = new PlanCabinet();
        for (int table = 0; table < 4; table++) {
            c.table();
            for (int row = 0; row < 3 && (row == 0 || table == t || table == u); row++) {
                c.row(table, table == t ? 1 + (row + 2) % 3 : 0, table == u ? 1 + (row + 1) % 3 : 0, 7);
            }
        }
        c.pair(t, 0, u, 1, 1);
        for (int table = 0; table < 4; table++) {
            if (table != t && table != u) {
                c.pair(Math.min(table, t), 2, Math.max(table, t), 2, 4);
            }
        }
        return Questions.readAll(c);
    }

    private static void sortedByTheLeastPairing() {
        Check.sentence("what the least PAIRING between has");
        // Column 0 rises where column 2 falls.
        for (int first = 0; first < 2; first++) {
            PlanCabinet c = ofValues(new int[] {2, 1, 3}, new int[] {3, 2, 1});
            c.pair(0, first == 0 ? 0 : 2, 1, first == 0 ? 0 : 2, 1);
            c.pair(0, first == 0 ? 2 : 0, 1, first == 0 ? 2 : 0, 1);
            Questions.readAll(c);
            c.join(2, 0, 1);
            Check.due("three", 3, c.run(2));
            if (first == 0) {
                outIs(c, 2, 1, 2, 0, 1, 2, 0);
            } else {
                outIs(c, 2, 2, 0, 0, 1, 1, 2);
            }
        }
    }

    private static void stepsAreOfCombinations() {
        Check.sentence("STEPS: .. numbers of combinations that both give in place of SIZES");
        PlanCabinet c = Questions.readAll(Questions.three());
        int[] steps = {4 + 4 + 16, 4 + 4 + 2 * 8, 4 + 4 + 3 * 8};
        for (int kind = 0; kind < 3; kind++) {
            c.join(kind, 0, 1);
            Check.due("kind " + kind, 4, c.run(3 + kind));
            Check.due("kind " + kind, steps[kind], c.steps());
        }
        // Of 0 and 1 come 4 combinations, whatever x is.
        for (int kind = 0; kind < 3; kind++) {
            c.join(kind, 2, 3);
            Check.due("all, kind " + kind, 4, c.run(6 + kind));
            Check.due("all, kind " + kind, 24 + 4 + steps[kind] - 8, c.steps());
        }
        PlanCabinet none = ofValues(new int[] {1, 2}, new int[] {3, 4, 5});
        none.table();
        none.row(2, 0, 0, 0);
        none.pair(0, 0, 1, 0, 4);
        none.pair(0, 1, 2, 1, 4);
        Questions.readAll(none);
        none.join(0, 0, 1);
        for (int kind = 0; kind < 3; kind++) {
            none.join(kind, 3, 2);
            Check.due("none and one", 0, none.run(4 + kind));
            int own = kind == 0 ? 0 : kind == 1 ? 2 : 3;
            Check.due("none and one, kind " + kind, 5 + 6 + 1 + own, none.steps());
        }
    }

    private static void orderIsRisingAtTheEnd() {
        Check.sentence("A whole one .. combinations are put in rising order of it .. 3 STEPS each");
        int[] values = {HIGH, 0, LOW, -1};
        PlanCabinet one = new PlanCabinet();
        one.table();
        for (int value : values) {
            one.row(0, 0, value, 0);
        }
        one.order(0, 1);
        one.read(0);
        Check.due("one table", 4, one.run(0));
        outIs(one, 1, 2, 3, 1, 0);
        Check.due("4 and 3 * 4", 16, one.steps());
        PlanCabinet c = Questions.mixed();
        c.order(0, 2);
        Questions.readAll(c);
        c.join(1, 0, 1);
        c.join(2, 0, 1);
        Check.due("not a whole one", 4, c.run(0));
        Check.due("not a whole one: no steps more", 4, c.steps());
        Check.due("as they were", 0, c.out(0, 0));
        Check.due("DEALT", 6, c.run(2));
        outIs(c, 2, 3, 0, 3, 3, 2, 1, 1, 0, 1, 3, 0, 2);
        Check.due("8 and 16 and 18", 42, c.steps());
        Check.due("SORTED by another column", 6, c.run(3));
        outIs(c, 2, 3, 0, 3, 3, 2, 1, 1, 0, 1, 3, 0, 2);
        Check.due("8 and 24 and 18", 50, c.steps());
        PlanCabinet none = ofValues(new int[] {1}, new int[] {2});
        none.pair(0, 0, 1, 0, 1);
        none.order(0, 1);
        Questions.readAll(none);
        none.join(0, 0, 1);
        Check.due("no combination", 0, none.run(2));
        Check.due("2 and 1 and nothing", 3, none.steps());
    }

    private static void orderLeavesThoseAlike() {
        Check.sentence("A whole one .. those alike as they were");
        PlanCabinet c = Questions.mixed();
        c.order(1, 1);
        Questions.readAll(c);
        c.join(0, 0, 1);
        c.join(2, 0, 1);
        // Rows 0 and 2 of table 1 have 0, rows 1 and 3 have 1.
        Check.due("NEST", 6, c.run(2));
        outIs(c, 2, 0, 2, 1, 0, 3, 0, 1, 3, 2, 1, 3, 3);
        Check.due("SORTED before", 6, c.run(3));
        outIs(c, 2, 1, 0, 3, 0, 0, 2, 1, 3, 3, 3, 2, 1);
    }

    private static void inOrderTakesNoSteps() {
        Check.sentence("A whole one, if there is an ORDER and it is not IN ORDER");
        for (int t = 0; t < 2; t++) {
            PlanCabinet c = Questions.mixed();
            c.order(t, 0);
            Questions.readAll(c);
            c.join(2, 0, 1);
            c.join(0, 0, 1);
            Check.due("IN ORDER", 6, c.run(2));
            outIs(c, 2, 1, 0, 1, 3, 3, 0, 3, 3, 2, 1, 0, 2);
            Check.due("8 and 24", 32, c.steps());
            Check.due("not IN ORDER", 6, c.run(3));
            Check.due("8 and 16 and 18", 42, c.steps());
        }
        PlanCabinet none = Questions.readAll(Questions.mixed());
        none.join(0, 0, 1);
        none.run(2);
        Check.due("no ORDER", 24, none.steps());
    }

    // ---- Promises 20 to 22

    private static void runOfNoPlan() {
        Check.sentence("20: NONE");
        PlanCabinet none = new PlanCabinet();
        Check.dueForEach("a new object", NONE, none::run, 0, -1, LOW, HIGH);
        PlanCabinet c = Questions.readAll(Questions.two());
        Check.dueForEach("plan", NONE, c::run, -1, 2, 59, 60, 64, 256, LOW, HIGH);
        Check.due("there was no run", 0, c.steps());
        Check.due("the least", 2, c.run(0));
        Check.due("the greatest", 3, c.run(1));
        Questions.fillPlans(c);
        Check.due("the last of 60", 2, c.run(59));
        Check.due("none behind it", NONE, c.run(60));
        c.clear();
        Check.due("gone", NONE, c.run(0));
    }

    private static void runOfNoCombination() {
        Check.sentence("20: how many combinations (none)");
        PlanCabinet c = ofValues(new int[] {1}, new int[] {2});
        c.pair(0, 0, 1, 0, 4);
        Questions.readAll(c);
        for (int kind = 0; kind < 3; kind++) {
            c.join(kind, 0, 1);
            Check.due("kind " + kind, 0, c.run(2 + kind));
            Check.due("no combination 0", NONE, c.out(0, 0));
        }
    }

    private static void runOfAllCombinations() {
        Check.sentence("20: how many combinations (all that there can be)");
        PlanCabinet c = Questions.greatest();
        c.order(3, 1);
        Questions.readAll(c);
        c.join(0, 0, 1);
        c.join(2, 2, 3);
        c.join(1, 4, 5);
        Check.due("8 * 8 * 8 * 8", 4096, c.run(6));
        Check.due("32, 64, 48, 256 and 3 * 4096", 32 + 64 + 48 + 256 + 12288, c.steps());
        Check.due("the first", 0, c.out(0, 0));
        Check.due("the last of the first 512", 0, c.out(511, 3));
        Check.due("the next", 1, c.out(512, 3));
        for (int t = 0; t < 4; t++) {
            Check.due("the last one", 7, c.out(4095, t));
            Check.due("behind it", NONE, c.out(4096, t));
        }
        c.join(0, 5, 4);
        Check.due("the other way round", 4096, c.run(7));
        Check.due("the last one", 7, c.out(4095, 0));
    }

    private static void runOfAGrownQuestion() {
        Check.sentence("20: how many combinations (the question has grown since the last RUN)");
        PlanCabinet c = Questions.tables(1, 1);
        c.pair(0, 2, 1, 2, 4);
        allOf(c, 1, 1);
        for (int rows = 2; rows <= 8; rows++) {
            c.row(1, 0, 0, 7);
            allOf(c, rows - 1, rows);
            c.row(0, 0, 0, 7);
            allOf(c, rows, rows);
        }
    }

    /** Runs a join of both tables, in which all combinations hold, and takes the plans away. */
    private static void allOf(PlanCabinet c, int lows, int highs) {
        Questions.readAll(c);
        Check.due(lows + " and " + highs, lows * highs, c.run(c.join(0, 0, 1)));
        Check.due("the last one, 0", lows - 1, c.out(lows * highs - 1, 0));
        Check.due("the last one, 1", highs - 1, c.out(lows * highs - 1, 1));
        c.clear();
    }

    private static void stepsWithoutARun() {
        Check.sentence("21: 0: there was none");
        PlanCabinet c = new PlanCabinet();
        Check.due("a new object", 0, c.steps());
        c.run(0);
        Check.due("a refused run is none", 0, c.steps());
        c = Questions.three();
        c.best(0);
        c.keen(0);
        c.worst(0);
        Check.due("plans, but no run", 0, c.steps());
    }

    private static void stepsOfTheLatestRun() {
        Check.sentence("21: STEPS of the latest RUN");
        PlanCabinet c = Questions.readAll(Questions.two());
        c.join(0, 0, 1);
        c.run(2);
        Check.due("5 and 6", 11, c.steps());
        Check.due("asked again", 11, c.steps());
        c.run(0);
        Check.due("a lesser one", 2, c.steps());
        c.run(2);
        c.run(3);
        c.run(-1);
        Check.due("refused ones are none", 11, c.steps());
        c.clear();
        Check.due("all plans go, the run was", 11, c.steps());
        c.table();
        Check.due("the question changes, the run was", 11, c.steps());
    }

    private static void outWithoutARun() {
        Check.sentence("22: NONE: none such (no RUN)");
        PlanCabinet c = Questions.readAll(Questions.two());
        for (int t = -1; t < 5; t++) {
            int table = t;
            Check.dueForEach("combination", NONE, i -> c.out(i, table), 0, 1, -1, LOW, HIGH);
        }
    }

    private static void outOfNone() {
        Check.sentence("22: NONE: none such");
        PlanCabinet c = Questions.readAll(Questions.two());
        c.join(0, 0, 1);
        Check.due("two", 2, c.run(2));
        for (int t = 0; t < 2; t++) {
            int table = t;
            Check.due("the least", 0, c.out(0, t));
            Check.due("the greatest", 1, c.out(1, t));
            Check.dueForEach("combination", NONE, i -> c.out(i, table),
                -1, 2, 3, 4, 256, 65536, LOW, HIGH);
        }
        Check.dueForEach("table", NONE, t -> c.out(0, t), -1, 2, 3, 4, 32, 33, 256, LOW, HIGH);
        c.run(1);
        Check.due("three rows", 2, c.out(2, 1));
        c.run(0);
        Check.due("two rows, a lesser run", NONE, c.out(2, 1));
        Check.due("two rows, a lesser run", NONE, c.out(2, 0));
        c.run(7);
        Check.due("a refused run is none", 1, c.out(1, 0));
        c.clear();
        Check.due("all plans go, the run was", 1, c.out(1, 0));
    }

    private static void outOfTablesOutside() {
        Check.sentence("22: NONE: none such (a TABLE that is not in the set)");
        PlanCabinet c = Questions.readAll(Questions.greatest());
        c.join(0, 1, 2);
        for (int t = 0; t < 4; t++) {
            c.run(t);
            for (int u = 0; u < 4; u++) {
                Check.due("READ " + t + ", table " + u, u == t ? 7 : NONE, c.out(7, u));
            }
        }
        c.run(4);
        Check.due("0, not in it", NONE, c.out(0, 0));
        Check.due("1", 0, c.out(0, 1));
        Check.due("2", 0, c.out(0, 2));
        Check.due("3, not in it", NONE, c.out(0, 3));
    }

    // ---- Promises 23 and 24

    private static void holdsOfNoPairing() {
        Check.sentence("23: NONE");
        PlanCabinet none = new PlanCabinet();
        Check.dueForEach("a new object", NONE, none::holds, 0, 1, 3, -1, LOW, HIGH);
        PlanCabinet c = Questions.ring();
        Check.dueForEach("pairing", NONE, c::holds, -1, 4, 5, 32, 256, LOW, HIGH);
        Check.due("the least, 2 * 3", 6, c.holds(0));
        Check.due("the greatest, 2 * 1", 2, c.holds(3));
        Check.due("the OPEN one, 3 * 2", 6, c.holds(1));
    }

    private static void holdsOfNoneAndAll() {
        Check.sentence("23: of all ROWS of its two TABLES, how many combinations hold");
        PlanCabinet c = Questions.tables(0, 0);
        c.pair(0, 2, 1, 2, 1);
        Check.due("no rows", 0, c.holds(0));
        c.row(0, 0, 0, 7);
        Check.due("no rows of the other table", 0, c.holds(0));
        c.row(1, 0, 0, 7);
        Check.due("one", 1, c.holds(0));
        for (int row = 1; row < 8; row++) {
            c.row(0, 0, 0, 7);
            c.row(1, 0, 0, 7);
        }
        Check.due("all that there can be", 64, c.holds(0));
        PlanCabinet ends = ofValues(new int[] {LOW, HIGH}, new int[] {HIGH, LOW});
        ends.pair(0, 0, 1, 0, 1);
        Check.due("LOW and HIGH are not alike", 2, ends.holds(0));
        PlanCabinet with = Questions.readAll(Questions.two());
        Check.due("with plans too", 2, with.holds(0));
    }

    private static void countOfNone() {
        Check.sentence("24: NONE");
        int[] none = {-1, 7, 8, 256, 65536, LOW, HIGH};
        PlanCabinet c = new PlanCabinet();
        Check.dueForEach("a new object, what", NONE, c::count, none);
        PlanCabinet full = Questions.fillPlans(Questions.ring());
        Check.dueForEach("a full object, what", NONE, full::count, none);
    }

    private static void countOfEmptyAndFull() {
        Check.sentence("24: 0 TABLES .. 4 the OPEN PAIRING (NONE) .. 6 (0: not WHOLE)");
        countsAre(new PlanCabinet(), 0, 0, 0, 0, NONE, 0, 0);
        countsAre(Questions.tables(0), 1, 0, 0, 0, NONE, 0, 0);
        countsAre(Questions.tables(1), 1, 1, 0, 0, NONE, 1, 1);
        countsAre(Questions.tables(1, 1), 2, 2, 0, 0, NONE, 0, 0);
        countsAre(Questions.two(), 2, 5, 1, 0, 0, 1, 6);
        countsAre(Questions.fillPlans(Questions.ring()), 4, 8, 4, 60, 1, 1, 2160);
        countsAre(Questions.greatest(), 4, 32, 3, 0, NONE, 1, 1080);
        PlanCabinet last = Questions.tables(1, 1);
        for (int p = 0; p < 4; p++) {
            last.pair(0, 0, 1, 0, p == 3 ? 0 : 1);
        }
        countsAre(last, 2, 2, 4, 0, 3, 1, 6);
    }

    private static void countsAre(PlanCabinet c, int... due) {
        for (int what = 0; what < due.length; what++) {
            Check.due("count " + what, due[what], c.count(what));
        }
    }

    private static void callsAreFiveHundredAndTwelve() {
        Check.sentence("An object is used for at most 512 calls after it has been made");
        PlanCabinet c = new PlanCabinet();
        c.table();
        c.row(0, 1, 2, 3);
        for (int call = 3; call <= 512; call++) {
            int phase = call % 3;
            if (phase == 0) {
                Check.due("call " + call, 0, c.best(call % 33));
            } else if (phase == 1) {
                Check.due("call " + call, 1, c.run(0));
            } else {
                Check.due("call " + call, 1, c.clear());
            }
        }
    }
}
