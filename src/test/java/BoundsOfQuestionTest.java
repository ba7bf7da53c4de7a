/** A test for each sentence with a boundary: what makes the question, and promises 1 to 6. */
public final class BoundsOfQuestionTest {
    private static final int NONE = Questions.NONE;
    private static final int BAD = Questions.BAD;
    private static final int STATE = Questions.STATE;
    private static final int FULL = Questions.FULL;
    private static final int LOW = Questions.LOW;
    private static final int HIGH = Questions.HIGH;

    public static void main(String[] args) {
        tablesAreFourAtMost();
        rowsAreEightAtMost();
        columnsAreThree();
        valuesAreInts();
        pairingsAreFourAtMost();
        secondTableHasTheGreaterNumber();
        sharesAreOneToFourQuarters();
        onePairingAtMostIsOpen();
        orderIsNoneOrOneField();
        wholeNeedsATable();
        wholeNeedsARowOfEachTable();
        wholeNeedsAllTablesJoined();
        newObjectIsEmpty();
        tableIsWithoutRows();
        tableWithAPlan();
        tableWhenFull();
        rowOfNoTable();
        rowWithAPlan();
        rowWhenFull();
        pairOfNoTableOrColumn();
        pairBadNumbers();
        pairWithAPlan();
        pairSecondOpenOne();
        pairWhenFull();
        orderOfNone();
        orderOfNoTableOrColumn();
        orderWithAPlan();
        clearTellsHowMany();
        clearTakesKeenOnesToo();
        spansAreToldAnewAfterEachChange();
        Check.end("BoundsOfQuestionTest");
    }

    // ---- Terms

    private static void tablesAreFourAtMost() {
        Check.sentence("TABLES are numbered from 0 on, 4 at most");
        PlanCabinet c = new PlanCabinet();
        for (int t = 0; t < 4; t++) {
            Check.due("no table yet", NONE, c.row(t, 0, 0, 0));
            Check.due("its number", t, c.table());
            Check.due("it is there", 0, c.row(t, 0, 0, 0));
        }
        Check.due("a fifth", FULL, c.table());
        Check.due("a sixth", FULL, c.table());
        Check.due("how many", 4, c.count(0));
        Check.due("no row of a fifth", NONE, c.row(4, 0, 0, 0));
    }

    private static void rowsAreEightAtMost() {
        Check.sentence("ROWS, numbered from 0 on, 8 at most");
        PlanCabinet c = Questions.tables(0, 0, 0, 0);
        for (int t = 3; t >= 0; t--) {
            for (int row = 0; row < 8; row++) {
                Check.due("table " + t, row, c.row(t, row, row, row));
            }
            Check.due("a ninth of table " + t, FULL, c.row(t, 8, 8, 8));
        }
        Check.due("all rows", 32, c.count(1));
    }

    private static void columnsAreThree() {
        Check.sentence("three COLUMNS 0 .. 2");
        for (int column = 0; column < 3; column++) {
            PlanCabinet c = Questions.tables(1, 1);
            Check.due("lower side " + column, 0, c.pair(0, column, 1, 0, 1));
            Check.due("upper side " + column, 1, c.pair(0, 0, 1, column, 1));
            Check.due("order " + column, 0, c.order(1, column));
        }
        PlanCabinet c = Questions.tables(1, 1);
        int[] none = {-1, 3, 4, 256, 65536, LOW, HIGH};
        Check.dueForEach("lower side", NONE, column -> c.pair(0, column, 1, 0, 1), none);
        Check.dueForEach("upper side", NONE, column -> c.pair(0, 0, 1, column, 1), none);
        Check.dueForEach("order", NONE, column -> c.order(1, column), none);
        Check.due("no pairing came", 0, c.count(2));
    }

    /** Alike is what is the same int, not what is the same in fewer bits or by a difference. */
    private static void valuesAreInts() {
        Check.sentence("COLUMNS .. ints");
        PlanCabinet c = Questions.tables(0, 0);
        int[] low = {LOW, HIGH, -1, 0, 1, 256, 65536, 1 << 30};
        int[] high = {LOW + 1, HIGH - 1, LOW, HIGH, 257, 65537, 3 << 30, -2};
        for (int row = 0; row < 8; row++) {
            c.row(0, low[row], 5, -5);
            c.row(1, high[row], 5, 5);
        }
        c.pair(0, 0, 1, 0, 1);
        c.pair(0, 1, 1, 1, 1);
        c.pair(0, 2, 1, 2, 1);
        c.pair(0, 1, 1, 2, 1);
        Check.due("LOW and HIGH alone", 2, c.holds(0));
        Check.due("5 and 5", 64, c.holds(1));
        Check.due("-5 and 5", 0, c.holds(2));
        Check.due("5 and 5 of other columns", 64, c.holds(3));
    }

    private static void pairingsAreFourAtMost() {
        Check.sentence("PAIRINGS are numbered from 0 on, 4 at most");
        PlanCabinet c = Questions.tables(1, 1);
        for (int p = 0; p < 4; p++) {
            Check.due("not there yet", NONE, c.holds(p));
            Check.due("its number", p, c.pair(0, 0, 1, 0, 1));
            Check.due("it is there", 1, c.holds(p));
        }
        Check.due("a fifth", FULL, c.pair(0, 0, 1, 0, 1));
        Check.due("how many", 4, c.count(2));
        Check.due("no fifth", NONE, c.holds(4));
    }

    private static void secondTableHasTheGreaterNumber() {
        Check.sentence("a COLUMN of a TABLE with a greater number");
        PlanCabinet c = Questions.tables(1, 1, 1, 1);
        Check.due("the next one", 0, c.pair(0, 0, 1, 0, 1));
        Check.due("the last one", 1, c.pair(0, 0, 3, 0, 1));
        Check.due("the last two", 2, c.pair(2, 0, 3, 0, 1));
        Check.due("the same one", BAD, c.pair(0, 0, 0, 0, 1));
        Check.due("the same one, another column", BAD, c.pair(3, 0, 3, 1, 1));
        Check.due("the one before", BAD, c.pair(1, 0, 0, 0, 1));
        Check.due("the first one", BAD, c.pair(3, 0, 0, 0, 1));
    }

    private static void sharesAreOneToFourQuarters() {
        Check.sentence("a SHARE of 1 to 4 quarters");
        for (int share = 1; share <= 4; share++) {
            PlanCabinet c = Questions.tables(2, 2);
            Check.due("share " + share, 0, c.pair(0, 0, 1, 0, share));
            Check.due("it is not OPEN", NONE, c.count(4));
            c.best(0);
            Check.due("the size, 4 rows by 4", share * 256, c.price(0, 2));
        }
        PlanCabinet c = Questions.tables(2, 2);
        Check.dueForEach("share", BAD, share -> c.pair(0, 0, 1, 0, share),
            -1, 5, 6, 256, 257, 65536, 65537, LOW, HIGH);
        Check.due("no pairing came", 0, c.count(2));
    }

    private static void onePairingAtMostIsOpen() {
        Check.sentence("at most one is OPEN: its SHARE is x quarters");
        for (int open = 0; open < 4; open++) {
            PlanCabinet c = Questions.tables(2, 2);
            for (int p = 0; p < 4; p++) {
                Check.due("none is OPEN yet", p > open ? open : NONE, c.count(4));
                c.pair(0, 0, 1, 0, p == open ? 0 : 4);
            }
            Check.due("which is OPEN", open, c.count(4));
            c.best(0);
            Check.due("A of the size", 0, c.price(0, 2));
            Check.due("B of the size, 4 rows by 4", 256, c.price(0, 3));
        }
        PlanCabinet c = Questions.tables(2, 2, 2);
        c.pair(0, 0, 1, 0, 0);
        Check.due("a second one, of other tables", STATE, c.pair(1, 0, 2, 0, 0));
        Check.due("still the first one", 0, c.count(4));
    }

    private static void orderIsNoneOrOneField() {
        Check.sentence("THE ORDER is none, or a TABLE and COLUMN");
        PlanCabinet c = Questions.tables(0, 0, 0, 0);
        for (int t = 0; t < 4; t++) {
            for (int column = 0; column < 3; column++) {
                Check.due("of table " + t, 0, c.order(t, column));
            }
        }
        PlanCabinet later = Questions.tables(2);
        later.order(0, 0);
        later.order(0, 1);
        later.read(0);
        Check.due("a later one takes its place: 2 and 3 * 2, once", 8 * 256, later.price(0, 0));
    }

    private static void wholeNeedsATable() {
        Check.sentence("WHOLE if there is a TABLE");
        PlanCabinet c = new PlanCabinet();
        notWhole("no table", c);
        c.table();
        c.row(0, 0, 0, 0);
        whole("one table needs no pairing", 1, c);
    }

    private static void wholeNeedsARowOfEachTable() {
        Check.sentence("WHOLE if .. each has a ROW");
        notWhole("one table without a row", Questions.tables(0));
        for (int empty = 0; empty < 4; empty++) {
            int[] rows = {1, 1, 1, 1};
            rows[empty] = 0;
            PlanCabinet c = Questions.tables(rows);
            c.pair(0, 0, 1, 0, 1);
            c.pair(0, 0, 2, 0, 1);
            c.pair(0, 0, 3, 0, 1);
            notWhole("table " + empty + " without a row", c);
            c.row(empty, 0, 0, 0);
            whole("with the least number of rows", 1296, c);
        }
    }

    private static void wholeNeedsAllTablesJoined() {
        Check.sentence("WHOLE if .. any two TABLES are joined by PAIRINGS, directly or by others");
        notWhole("two without a pairing", Questions.tables(1, 1));
        PlanCabinet halves = Questions.tables(1, 1, 1, 1);
        halves.pair(0, 0, 1, 0, 1);
        halves.pair(2, 0, 3, 0, 1);
        halves.pair(0, 1, 1, 1, 1);
        notWhole("two and two", halves);
        halves.pair(1, 0, 2, 0, 1);
        whole("by others, three between the ends", 1080, halves);
        for (int alone = 0; alone < 4; alone++) {
            PlanCabinet c = Questions.tables(1, 1, 1, 1);
            int first = alone == 0 ? 1 : 0;
            int last = alone == 3 ? 2 : 3;
            int middle = 6 - alone - first - last;
            c.pair(first, 0, middle, 0, 1);
            c.pair(middle, 0, last, 0, 1);
            c.pair(first, 0, last, 0, 1);
            notWhole("table " + alone + " alone", c);
        }
        PlanCabinet backwards = Questions.tables(1, 1, 1, 1);
        backwards.pair(1, 0, 2, 0, 1);
        backwards.pair(2, 0, 3, 0, 1);
        backwards.pair(0, 0, 3, 0, 1);
        whole("joined to the first one by the last one alone", 1080, backwards);
        PlanCabinet never = Questions.tables(1, 1);
        never.pair(0, 0, 1, 1, 0);
        never.pair(0, 0, 1, 2, 1);
        Check.due("a pairing that never holds", 0, never.holds(1));
        whole("joins all the same", 6, never);
    }

    private static void whole(String what, int plans, PlanCabinet c) {
        Check.due(what, 1, c.count(5));
        Check.due(what + ", whole plans", plans, c.count(6));
        Check.due(what + ", read", 0, c.read(0));
        c.clear();
    }

    private static void notWhole(String what, PlanCabinet c) {
        Check.due(what, 0, c.count(5));
        Check.due(what + ", whole plans", 0, c.count(6));
        Check.due(what + ", best", STATE, c.best(0));
        Check.due(what + ", spans", STATE, c.spans());
        Check.due(what + ", keen", STATE, c.keen(0));
        Check.due(what + ", blind", STATE, c.blind());
        Check.due(what + ", cover", STATE, c.cover(0));
        Check.due(what + ", border", Questions.NO, c.border(0, 0));
        if (c.count(0) > 0) {
            Check.due(what + ", read", STATE, c.read(0));
        }
    }

    // ---- Promises 1 and 2

    private static void newObjectIsEmpty() {
        Check.sentence("1: No TABLES, no PAIRINGS, no PLANS, no ORDER");
        PlanCabinet before = Questions.threeInOrder();
        before.run(before.keen(0));
        PlanCabinet c = new PlanCabinet();
        int[] due = {0, 0, 0, 0, NONE, 0, 0, NONE};
        for (int what = 0; what < due.length; what++) {
            Check.due("count " + what, due[what], c.count(what));
        }
        Check.due("no table", NONE, c.row(0, 0, 0, 0));
        Check.due("no pairing", NONE, c.holds(0));
        Check.due("no plan", NONE, c.run(0));
        Check.due("no run", 0, c.steps());
        Check.due("no combination", NONE, c.out(0, 0));
        Check.due("nothing to clear", 0, c.clear());
        c.table();
        c.row(0, 0, 0, 0);
        c.read(0);
        Check.due("no order that costs", 256, c.price(0, 0));
        Check.due("no order that takes steps", 1, c.run(0));
        Check.due("no order that takes steps", 1, c.steps());
    }

    private static void tableIsWithoutRows() {
        Check.sentence("2: A TABLE more, without ROWS");
        PlanCabinet c = Questions.tables(8);
        Check.due("its number", 1, c.table());
        Check.due("rows", 8, c.count(1));
        Check.due("its first row", 0, c.row(1, 0, 0, 0));
    }

    private static void tableWithAPlan() {
        Check.sentence("2: STATE: there is a PLAN");
        PlanCabinet read = Questions.tables(1);
        read.read(0);
        Check.due("a READ", STATE, read.table());
        PlanCabinet best = Questions.two();
        best.best(0);
        Check.due("THE BEST", STATE, best.table());
        PlanCabinet keen = Questions.two();
        keen.keen(0);
        Check.due("a KEEN one", STATE, keen.table());
        keen.clear();
        Check.due("none again", 2, keen.table());
        PlanCabinet told = Questions.two();
        told.spans();
        told.blind();
        told.cover(0);
        Check.due("SPANS that are told are no PLAN", 2, told.table());
    }

    private static void tableWhenFull() {
        Check.sentence("2: STATE .. FULL");
        PlanCabinet c = Questions.ring();
        Check.due("four", FULL, c.table());
        c.read(0);
        Check.due("four and a plan", STATE, c.table());
        c.clear();
        Check.due("four again", FULL, c.table());
        Check.due("how many", 4, c.count(0));
    }

    // ---- Promise 3

    private static void rowOfNoTable() {
        Check.sentence("3: NONE");
        PlanCabinet none = new PlanCabinet();
        Check.due("no table at all", NONE, none.row(0, 0, 0, 0));
        PlanCabinet c = Questions.tables(1, 1);
        c.pair(0, 0, 1, 0, 1);
        int[] tables = {-1, 2, 3, 4, 32, 256, 65536, LOW, HIGH};
        Check.dueForEach("table", NONE, t -> c.row(t, 0, 0, 0), tables);
        c.read(0);
        Check.dueForEach("with a plan, table", NONE, t -> c.row(t, 0, 0, 0), tables);
        Check.due("rows", 2, c.count(1));
    }

    private static void rowWithAPlan() {
        Check.sentence("3: STATE: there is a PLAN");
        PlanCabinet c = Questions.tables(1, 8);
        c.pair(0, 0, 1, 0, 1);
        c.read(0);
        Check.due("a row", STATE, c.row(0, 0, 0, 0));
        Check.due("a ninth row", STATE, c.row(1, 0, 0, 0));
        c.clear();
        Check.due("none again", 1, c.row(0, 0, 0, 0));
        Check.due("a ninth row", FULL, c.row(1, 0, 0, 0));
    }

    private static void rowWhenFull() {
        Check.sentence("3: FULL");
        PlanCabinet c = Questions.tables(7, 8);
        Check.due("the eighth", 7, c.row(0, 0, 0, 0));
        Check.due("a ninth", FULL, c.row(0, 0, 0, 0));
        Check.due("a ninth of the other", FULL, c.row(1, LOW, HIGH, 0));
        Check.due("rows", 16, c.count(1));
    }

    // ---- Promise 4

    private static void pairOfNoTableOrColumn() {
        Check.sentence("4: NONE");
        PlanCabinet c = Questions.tables(1, 1, 1);
        int[] none = {-1, 3, 4, 32, 33, 256, LOW, HIGH};
        Check.dueForEach("t", NONE, t -> c.pair(t, 0, 2, 0, 1), none);
        Check.dueForEach("column", NONE, column -> c.pair(0, column, 1, 0, 1), none);
        Check.dueForEach("u", NONE, u -> c.pair(0, 0, u, 0, 1), none);
        Check.dueForEach("other", NONE, other -> c.pair(0, 0, 1, other, 1), none);
        Check.dueForEach("t, and bad", NONE, t -> c.pair(t, 0, 0, 0, 5), none);
        Check.dueForEach("column, and u not above t", NONE, k -> c.pair(1, k, 0, 0, 1), none);
        Check.dueForEach("u, and share", NONE, u -> c.pair(0, 0, u, 0, -1), none);
        Check.dueForEach("other, and share", NONE, other -> c.pair(0, 0, 1, other, 5), none);
        Check.due("no pairing came", 0, c.count(2));
    }

    private static void pairBadNumbers() {
        Check.sentence("4: BAD: u not above t, share not 0 .. 4");
        PlanCabinet c = Questions.tables(1, 1, 1);
        Check.due("u is t", BAD, c.pair(1, 0, 1, 1, 1));
        Check.due("u below t", BAD, c.pair(2, 0, 1, 1, 1));
        Check.due("share -1", BAD, c.pair(0, 0, 1, 1, -1));
        Check.due("share 5", BAD, c.pair(0, 0, 1, 1, 5));
        Check.due("both", BAD, c.pair(1, 0, 1, 1, 5));
        Check.due("share 0", 0, c.pair(0, 0, 1, 1, 0));
        Check.due("u below t, and a second OPEN one", BAD, c.pair(2, 0, 1, 1, 0));
        Check.due("share 1", 1, c.pair(1, 0, 2, 1, 1));
        c.read(0);
        Check.due("u is t, and a plan", BAD, c.pair(1, 0, 1, 1, 1));
        Check.due("share 5, and a plan", BAD, c.pair(0, 0, 1, 1, 5));
        c.clear();
        Check.due("share 4", 2, c.pair(0, 0, 2, 1, 4));
        Check.due("share 3", 3, c.pair(0, 0, 2, 1, 3));
        Check.due("u is t, and full", BAD, c.pair(1, 0, 1, 1, 1));
        Check.due("share -1, and full", BAD, c.pair(0, 0, 1, 1, -1));
    }

    private static void pairWithAPlan() {
        Check.sentence("4: STATE: there is a PLAN");
        PlanCabinet c = Questions.two();
        c.read(0);
        Check.due("a pairing", STATE, c.pair(0, 0, 1, 0, 1));
        Check.due("a second OPEN one", STATE, c.pair(0, 0, 1, 0, 0));
        Check.due("no column, and a plan", NONE, c.pair(0, 3, 1, 0, 1));
        c.clear();
        Check.due("none again", 1, c.pair(0, 0, 1, 0, 1));
        PlanCabinet ring = Questions.ring();
        ring.read(0);
        Check.due("a plan, and full", STATE, ring.pair(0, 0, 1, 0, 1));
    }

    private static void pairSecondOpenOne() {
        Check.sentence("4: STATE: .. another one is OPEN");
        PlanCabinet c = Questions.two();
        Check.due("a second one", STATE, c.pair(0, 1, 1, 1, 0));
        Check.due("one that is not OPEN", 1, c.pair(0, 1, 1, 1, 1));
        c.pair(0, 1, 1, 1, 4);
        c.pair(0, 1, 1, 1, 4);
        Check.due("a second one, and full", STATE, c.pair(0, 1, 1, 1, 0));
        Check.due("which is OPEN", 0, c.count(4));
    }

    private static void pairWhenFull() {
        Check.sentence("4: FULL");
        PlanCabinet c = Questions.tables(1, 1);
        c.pair(0, 0, 1, 0, 1);
        c.pair(0, 0, 1, 0, 1);
        c.pair(0, 0, 1, 0, 1);
        Check.due("the fourth", 3, c.pair(0, 0, 1, 0, 1));
        Check.due("a fifth", FULL, c.pair(0, 1, 1, 1, 1));
        Check.due("a fifth that is OPEN, the first such one", FULL, c.pair(0, 1, 1, 1, 0));
        Check.due("none is OPEN", NONE, c.count(4));
        Check.due("no column, and full", NONE, c.pair(0, 3, 1, 1, 1));
    }

    // ---- Promises 5 and 6

    private static void orderOfNone() {
        Check.sentence("5: t -1: none, column is not looked at");
        PlanCabinet c = new PlanCabinet();
        Check.dueForEach("without a table, column", 0, k -> c.order(-1, k), 0, -1, 3, LOW, HIGH);
        PlanCabinet one = Questions.tables(2);
        for (int column : new int[] {0, 2, 3, -1, LOW, HIGH}) {
            one.order(0, 1);
            Check.due("column " + column, 0, one.order(-1, column));
            one.read(0);
            Check.due("none: 2 rows and no more", 2 * 256, one.price(0, 0));
            one.clear();
        }
    }

    private static void orderOfNoTableOrColumn() {
        Check.sentence("5: NONE");
        PlanCabinet none = new PlanCabinet();
        Check.due("no table at all", NONE, none.order(0, 0));
        PlanCabinet c = Questions.tables(2);
        c.order(0, 2);
        Check.dueForEach("table", NONE, t -> c.order(t, 0), -2, 1, 4, 32, 256, LOW, HIGH);
        Check.dueForEach("column", NONE, k -> c.order(0, k), -1, 3, 256, LOW, HIGH);
        c.read(0);
        Check.due("the order stays: 2 and 3 * 2", 8 * 256, c.price(0, 0));
        Check.dueForEach("with a plan, table", NONE, t -> c.order(t, 0), -2, 1, LOW, HIGH);
        Check.dueForEach("with a plan, column", NONE, k -> c.order(0, k), -1, 3, LOW, HIGH);
    }

    private static void orderWithAPlan() {
        Check.sentence("5: STATE: there is a PLAN");
        PlanCabinet c = Questions.tables(2);
        c.read(0);
        Check.due("an order", STATE, c.order(0, 0));
        Check.due("none", STATE, c.order(-1, 0));
        c.clear();
        c.read(0);
        Check.due("there is none still", 2 * 256, c.price(0, 0));
        c.clear();
        Check.due("no plan again", 0, c.order(0, 0));
        c.read(0);
        Check.due("none", STATE, c.order(-1, 3));
        c.clear();
        c.read(0);
        Check.due("there is one still", 8 * 256, c.price(0, 0));
    }

    private static void clearTellsHowMany() {
        Check.sentence("6: All PLANS go: how many there were");
        PlanCabinet c = new PlanCabinet();
        Check.due("a new object", 0, c.clear());
        PlanCabinet one = Questions.two();
        one.read(0);
        Check.due("one", 1, one.clear());
        Check.due("none", 0, one.clear());
        Questions.fillPlans(one);
        Check.due("all that there can be", 60, one.clear());
        Check.due("none", 0, one.count(3));
        Check.due("plan 0", NONE, one.code(0, 0));
        Check.due("plan 59", NONE, one.code(59, 0));
        Check.due("numbers from 0 on", 0, one.read(1));
        Check.due("plan 0 is the new one", 1, one.code(0, 0));
        Check.due("plan 1 is none", NONE, one.run(1));
        Check.due("the question stays", 1, one.count(5));
    }

    private static void clearTakesKeenOnesToo() {
        Check.sentence("6: KEEN ones, too: SPANS are told anew");
        PlanCabinet c = Questions.three();
        Check.due("two spans", 2, c.spans());
        Check.due("told spans are no plans", 0, c.clear());
        c.keen(0);
        c.keen(1);
        Check.due("two plans", 2, c.clear());
        Check.due("none is left", NONE, c.code(0, 0));
        Check.due("the same question, the same spans", 2, c.spans());
        Check.due("the second one", 0, c.keen(1));
        Check.due("44", 44 * 256, c.price(0, 0));
        c.clear();
        c.order(0, 0);
        Check.due("with an order", 0, c.keen(1));
        Check.due("52", 52 * 256, c.price(0, 0));
        Check.due("its border", 6, c.border(1, 0));
        c.clear();
        c.order(-1, 0);
        c.row(0, 4, 4, 4);
        // 13 and DEALT 18 and 5x * 4 against 13 and 16 and DEALT 18.
        Check.due("with a row more", 0, c.keen(1));
        Check.due("47", 47 * 256, c.price(0, 0));
        Check.due("its border, above", 4, c.border(1, 0));
        Check.due("its border, below", 5, c.border(1, 1));
    }

    /** One change each time, with the spans told before it. */
    private static void spansAreToldAnewAfterEachChange() {
        Check.sentence("6: SPANS are told anew");
        PlanCabinet row = Questions.three();
        row.spans();
        row.row(0, 4, 4, 4);
        Check.due("a row more, above", 4, row.border(1, 0));
        Check.due("a row more, below", 5, row.border(1, 1));
        PlanCabinet pair = Questions.two();
        pair.order(0, 1);
        pair.keen(0);
        pair.clear();
        pair.pair(0, 0, 1, 0, 2);
        pair.keen(0);
        Check.due("a pairing more: 3 times 6x / 8", 3 * 192, pair.price(0, 1));
        PlanCabinet order = Questions.three();
        order.spans();
        order.order(0, 0);
        Check.due("an order, above", 6, order.border(1, 0));
        Check.due("an order, below", 7, order.border(1, 1));
        PlanCabinet table = Questions.three();
        table.spans();
        table.table();
        Check.due("a table more", STATE, table.spans());
        table.row(3, 0, 0, 0);
        table.pair(2, 0, 3, 0, 4);
        Check.due("joined to the rest", 0, table.keen(0));
        Check.due("it is in the plan", 15, table.about(0, 0));
    }
}
