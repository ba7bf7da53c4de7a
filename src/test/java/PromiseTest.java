/**
 * The promises of the document by their numbers, with answers worked out by hand: ordinary
 * inputs, the edges, wrong inputs, and which refusal comes first.
 */
public final class PromiseTest {
    private static final int NONE = -1;
    private static final int BAD = -2;
    private static final int STATE = -3;
    private static final int FULL = -4;
    private static final long NO = Long.MIN_VALUE;
    private static final int LOW = Integer.MIN_VALUE;
    private static final int HIGH = Integer.MAX_VALUE;

    private static int promise;

    public static void main(String[] args) {
        promise1NewObject();
        promise2Table();
        promise3Row();
        promise4Pair();
        promise4PairRefusals();
        promise5Order();
        promise6Clear();
        promise7Read();
        promise8Join();
        promise8JoinRefusals();
        promise9Code();
        promise10About();
        promise11Price();
        promise11PriceWithOrder();
        promise11PriceOfManyPairings();
        promise11PriceOfFourTables();
        promise12Best();
        promise12BestOfSeveral();
        promise13Spans();
        promise14Border();
        promise15Keen();
        promise16Near();
        promise17Worst();
        promise18Blind();
        promise19Cover();
        promise20Run();
        promise20RunSorted();
        promise20RunInOrder();
        promise20RunOfAll();
        promise21Steps();
        promise22Out();
        promise23Holds();
        promise24Count();
        promise24CountOfWholePlans();
        refusalsChangeNothing();
        Check.end("PromiseTest");
    }

    private static void due(String call, long want, long got) {
        Check.due("promise " + promise + ": " + call, want, got);
    }

    // ---- the question

    private static void promise1NewObject() {
        promise = 1;
        PlanCabinet c = new PlanCabinet();
        due("tables", 0, c.count(0));
        due("rows", 0, c.count(1));
        due("pairings", 0, c.count(2));
        due("plans", 0, c.count(3));
        due("open", NONE, c.count(4));
        due("whole", 0, c.count(5));
        due("steps", 0, c.steps());
        due("out", NONE, c.out(0, 0));
        c.table();
        c.row(0, 1, 2, 3);
        c.read(0);
        due("no order costs", 256, c.price(0, 0));
        PlanCabinet other = new PlanCabinet();
        due("an object of its own", 0, other.count(0));
    }

    private static void promise2Table() {
        promise = 2;
        PlanCabinet c = new PlanCabinet();
        for (int t = 0; t < 4; t++) {
            due("table " + t, t, c.table());
            due("without rows", t, c.count(1));
            c.row(t, 0, 0, 0);
        }
        due("a fifth", FULL, c.table());
        due("tables", 4, c.count(0));
        PlanCabinet d = Questions.tables(1);
        d.read(0);
        due("with a plan", STATE, d.table());
        due("tables", 1, d.count(0));
        d.clear();
        due("without plans again", 1, d.table());
        due("no longer whole", 0, d.count(5));
        PlanCabinet e = Questions.tables(1, 1, 1, 1);
        e.pair(0, 0, 1, 0, 1);
        e.pair(0, 0, 2, 0, 1);
        e.pair(0, 0, 3, 0, 1);
        e.read(0);
        due("a plan and full", STATE, e.table());
    }

    private static void promise3Row() {
        promise = 3;
        PlanCabinet c = Questions.tables(0, 0);
        for (int row = 0; row < 8; row++) {
            due("row " + row, row, c.row(1, LOW, HIGH, row));
        }
        due("a ninth", FULL, c.row(1, 0, 0, 0));
        due("of another table", 0, c.row(0, 5, 5, 5));
        due("rows", 9, c.count(1));
        due("table 2", NONE, c.row(2, 0, 0, 0));
        due("table -1", NONE, c.row(-1, 0, 0, 0));
        due("table LOW", NONE, c.row(LOW, 0, 0, 0));
        due("table HIGH", NONE, c.row(HIGH, 0, 0, 0));
        c.pair(0, 0, 1, 2, 1);
        due("read", 0, c.read(0));
        due("with a plan", STATE, c.row(0, 0, 0, 0));
        due("with a plan, full", STATE, c.row(1, 0, 0, 0));
        due("with a plan, no table", NONE, c.row(2, 0, 0, 0));
        due("rows", 9, c.count(1));
    }

    private static void promise4Pair() {
        promise = 4;
        PlanCabinet c = Questions.tables(2, 2, 2);
        due("first", 0, c.pair(0, 0, 1, 2, 4));
        due("not open", NONE, c.count(4));
        due("open", 1, c.pair(1, 1, 2, 0, 0));
        due("which is open", 1, c.count(4));
        due("the same again", 2, c.pair(0, 0, 1, 2, 4));
        due("last", 3, c.pair(0, 2, 2, 2, 1));
        due("a fifth", FULL, c.pair(0, 0, 1, 0, 2));
        due("pairings", 4, c.count(2));
    }

    private static void promise4PairRefusals() {
        promise = 4;
        PlanCabinet c = Questions.tables(2, 2);
        due("t", NONE, c.pair(-1, 0, 1, 0, 1));
        due("t too great", NONE, c.pair(2, 0, 1, 0, 1));
        due("u", NONE, c.pair(0, 0, 2, 0, 1));
        due("column", NONE, c.pair(0, 3, 1, 0, 1));
        due("column -1", NONE, c.pair(0, -1, 1, 0, 1));
        due("other", NONE, c.pair(0, 0, 1, 3, 1));
        due("other -1", NONE, c.pair(0, 0, 1, -1, 1));
        due("u not above t", BAD, c.pair(1, 0, 0, 0, 1));
        due("u is t", BAD, c.pair(0, 0, 0, 1, 1));
        due("share 5", BAD, c.pair(0, 0, 1, 0, 5));
        due("share -1", BAD, c.pair(0, 0, 1, 0, -1));
        due("column and share", NONE, c.pair(0, 3, 1, 0, 5));
        due("nothing came", 0, c.count(2));
        due("open", 0, c.pair(0, 0, 1, 0, 0));
        due("a second open", STATE, c.pair(0, 0, 1, 0, 0));
        due("bad and open", BAD, c.pair(1, 0, 0, 0, 0));
        due("another", 1, c.pair(0, 1, 1, 1, 3));
        c.read(0);
        due("with a plan", STATE, c.pair(0, 0, 1, 0, 1));
        due("with a plan, share", BAD, c.pair(0, 0, 1, 0, 7));
        c.clear();
        c.pair(0, 1, 1, 1, 3);
        c.pair(0, 1, 1, 1, 3);
        due("open and full", STATE, c.pair(0, 0, 1, 0, 0));
        due("full", FULL, c.pair(0, 0, 1, 0, 2));
        c.read(0);
        due("a plan and full", STATE, c.pair(0, 0, 1, 0, 2));
    }

    private static void promise5Order() {
        promise = 5;
        PlanCabinet c = Questions.tables(2);
        due("no table", NONE, c.order(1, 0));
        due("table -2", NONE, c.order(-2, 0));
        due("column 3", NONE, c.order(0, 3));
        due("column -1", NONE, c.order(0, -1));
        due("order", 0, c.order(0, 2));
        c.read(0);
        due("it costs 3 times 2", 8 * 256, c.price(0, 0));
        due("with a plan", STATE, c.order(0, 1));
        due("none with a plan", STATE, c.order(-1, 0));
        due("no table with a plan", NONE, c.order(1, 0));
        due("no column with a plan", NONE, c.order(0, 3));
        c.clear();
        due("a refused one changes nothing", NONE, c.order(0, 3));
        c.read(0);
        due("still an order", 8 * 256, c.price(0, 0));
        c.clear();
        due("none, any column", 0, c.order(-1, 99));
        c.read(0);
        due("no order", 2 * 256, c.price(0, 0));
    }

    private static void promise6Clear() {
        promise = 6;
        PlanCabinet c = new PlanCabinet();
        due("of none", 0, c.clear());
        c = Questions.two();
        c.read(0);
        c.read(1);
        c.join(0, 0, 1);
        c.keen(0);
        c.run(2);
        int steps = c.steps();
        due("of four", 4, c.clear());
        due("plans", 0, c.count(3));
        due("plan 0 is gone", NONE, c.code(0, 0));
        due("again", 0, c.clear());
        due("the question stays", 1, c.count(5));
        due("the latest run stays", steps, c.steps());
        due("numbers from 0 on", 0, c.keen(0));
        c.clear();
        for (int row = 2; row < 8; row++) {
            c.row(0, row, row, row);
        }
        due("spans told anew", 0, c.keen(0));
        due("DEALT now: 11 + 22", 33 * 256, c.price(0, 0));
    }

    // ---- plans

    private static void promise7Read() {
        promise = 7;
        PlanCabinet c = new PlanCabinet();
        due("no table", NONE, c.read(0));
        c.table();
        due("no row", STATE, c.read(0));
        due("no row, no table", NONE, c.read(1));
        c.row(0, 1, 1, 1);
        c.table();
        c.row(1, 1, 1, 1);
        due("not joined", STATE, c.read(0));
        c.pair(0, 0, 1, 0, 1);
        due("first", 0, c.read(1));
        due("its table", 1, c.code(0, 0));
        due("second", 1, c.read(1));
        due("table -1", NONE, c.read(-1));
        due("table 2", NONE, c.read(2));
        for (int i = 2; i < 60; i++) {
            due("plan " + i, i, c.read(i % 2));
        }
        due("full", FULL, c.read(0));
        due("full, no table", NONE, c.read(4));
        due("plans", 60, c.count(3));
        due("the last one", 1, c.code(59, 0));
    }

    private static void promise8Join() {
        promise = 8;
        PlanCabinet c = Questions.three();
        c.read(0);
        c.read(1);
        c.read(2);
        due("NEST", 3, c.join(0, 0, 1));
        due("DEALT", 4, c.join(1, 2, 3));
        due("SORTED", 5, c.join(2, 3, 2));
        due("set", 7, c.about(5, 0));
        due("the other order", 6, c.join(0, 1, 0));
        due("plans", 7, c.count(3));
    }

    private static void promise8JoinRefusals() {
        promise = 8;
        PlanCabinet c = Questions.three();
        due("no plans", NONE, c.join(0, 0, 0));
        c.read(0);
        c.read(1);
        c.read(2);
        due("left", NONE, c.join(0, 3, 0));
        due("right", NONE, c.join(0, 0, 3));
        due("left -1", NONE, c.join(0, -1, 0));
        due("right LOW", NONE, c.join(0, 0, LOW));
        due("kind and right", NONE, c.join(3, 0, 3));
        due("kind 3", BAD, c.join(3, 0, 1));
        due("kind -1", BAD, c.join(-1, 0, 1));
        due("kind and both alike", BAD, c.join(3, 0, 0));
        due("itself", STATE, c.join(0, 0, 0));
        due("no pairing between", STATE, c.join(0, 0, 2));
        c.join(0, 0, 1);
        due("a table in both", STATE, c.join(0, 3, 1));
        due("a table in both, turned", STATE, c.join(0, 1, 3));
        due("plans", 4, c.count(3));
        Questions.fillPlans(c);
        due("full", FULL, c.join(0, 0, 1));
        due("full and no pairing", STATE, c.join(0, 0, 2));
        due("full and kind", BAD, c.join(9, 0, 1));
    }

    private static void promise9Code() {
        promise = 9;
        PlanCabinet c = Questions.three();
        c.read(2);
        c.read(1);
        c.read(0);
        c.join(2, 1, 0);
        c.join(1, 2, 3);
        codeIs(c, 0, 2);
        codeIs(c, 3, 6, 1, 2);
        codeIs(c, 4, 5, 0, 6, 1, 2);
        due("plan 5", NONE, c.code(5, 0));
        due("plan -1", NONE, c.code(-1, 0));
        due("number LOW", NONE, c.code(4, LOW));
        due("number HIGH", NONE, c.code(4, HIGH));
        PlanCabinet four = Questions.tables(1, 1, 1, 1);
        four.pair(0, 0, 1, 0, 1);
        four.pair(1, 0, 2, 0, 1);
        four.pair(2, 0, 3, 0, 1);
        four.read(3);
        four.read(2);
        four.read(1);
        four.read(0);
        four.join(1, 0, 1);
        four.join(0, 3, 2);
        four.join(2, 4, 5);
        codeIs(four, 6, 6, 5, 3, 2, 4, 0, 1);
    }

    private static void codeIs(PlanCabinet c, int plan, int... numbers) {
        for (int i = 0; i < numbers.length; i++) {
            due("code(" + plan + ", " + i + ")", numbers[i], c.code(plan, i));
        }
        due("code(" + plan + ", -1)", NONE, c.code(plan, -1));
        due("code(" + plan + ", end)", NONE, c.code(plan, numbers.length));
    }

    private static void promise10About() {
        promise = 10;
        PlanCabinet c = Questions.three();
        c.pair(0, 1, 1, 1, 2);
        c.order(1, 0);
        c.read(0);
        c.read(1);
        c.read(2);
        c.join(2, 0, 1);
        c.join(2, 2, 1);
        c.join(2, 3, 2);
        c.join(1, 3, 2);
        aboutIs(c, 0, 1, 0, 0, 0);
        aboutIs(c, 2, 4, 0, 0, 0);
        aboutIs(c, 3, 3, 1, 1, 0);
        aboutIs(c, 4, 6, 1, 1, 0);
        aboutIs(c, 5, 7, 2, 1, 1);
        aboutIs(c, 6, 7, 2, 0, 1);
        due("what 4", NONE, c.about(0, 4));
        due("what -1", NONE, c.about(0, -1));
        due("plan 7", NONE, c.about(7, 0));
        due("plan -1", NONE, c.about(-1, 0));
        c.clear();
        c.order(1, 1);
        c.read(0);
        c.read(1);
        c.join(2, 0, 1);
        due("a pairing that is not the least one", 0, c.about(2, 2));
        c.clear();
        c.order(2, 0);
        c.read(1);
        c.read(2);
        c.join(2, 0, 1);
        due("on the upper side", 1, c.about(2, 2));
        c.clear();
        c.order(-1, 0);
        c.read(0);
        c.read(1);
        c.join(2, 0, 1);
        due("no order", 0, c.about(2, 2));
        PlanCabinet one = Questions.tables(3);
        one.read(0);
        due("one table is all", 1, one.about(0, 3));
    }

    private static void aboutIs(PlanCabinet c, int plan, int set, int joins, int order, int whole) {
        due("about(" + plan + ", 0)", set, c.about(plan, 0));
        due("about(" + plan + ", 1)", joins, c.about(plan, 1));
        due("about(" + plan + ", 2)", order, c.about(plan, 2));
        due("about(" + plan + ", 3)", whole, c.about(plan, 3));
    }

    private static void promise11Price() {
        promise = 11;
        PlanCabinet c = Questions.three();
        c.read(0);
        c.read(1);
        c.read(2);
        priceIs(c, 0, 4, 0, 4, 0);
        c.join(0, 0, 1);
        priceIs(c, 3, 8 + 16, 0, 0, 4);
        c.join(1, 0, 1);
        priceIs(c, 4, 8 + 2 * 8, 0, 0, 4);
        c.join(2, 0, 1);
        priceIs(c, 5, 8 + 3 * 8, 0, 0, 4);
        c.join(0, 3, 2);
        priceIs(c, 6, 24 + 4, 4 * 4, 0, 4);
        c.join(0, 2, 3);
        priceIs(c, 7, 24 + 4, 4 * 4, 0, 4);
        c.join(1, 3, 2);
        priceIs(c, 8, 24 + 4 + 2 * 4, 2 * 4, 0, 4);
        c.join(2, 3, 2);
        priceIs(c, 9, 24 + 4 + 3 * 4, 3 * 4, 0, 4);
        c.join(0, 1, 2);
        priceIs(c, 10, 8 + 16, 0, 4, 0);
        due("what 4", NO, c.price(0, 4));
        due("what -1", NO, c.price(0, -1));
        due("plan 11", NO, c.price(11, 0));
        due("plan -1", NO, c.price(-1, 0));
    }

    private static void priceIs(PlanCabinet c, int plan, long a, long b, long sizeA, long sizeB) {
        due("price(" + plan + ", 0)", a * 256, c.price(plan, 0));
        due("price(" + plan + ", 1)", b * 256, c.price(plan, 1));
        due("price(" + plan + ", 2)", sizeA * 256, c.price(plan, 2));
        due("price(" + plan + ", 3)", sizeB * 256, c.price(plan, 3));
    }

    private static void promise11PriceWithOrder() {
        promise = 11;
        PlanCabinet c = Questions.three();
        c.order(1, 0);
        c.read(0);
        c.read(1);
        c.read(2);
        c.join(0, 0, 1);
        priceIs(c, 3, 24, 0, 0, 4);
        c.join(1, 3, 2);
        priceIs(c, 4, 36, 8 + 3 * 4, 0, 4);
        c.join(2, 3, 2);
        priceIs(c, 5, 40, 12, 0, 4);
        c.clear();
        c.order(0, 0);
        c.read(0);
        c.read(1);
        c.read(2);
        c.join(0, 0, 1);
        c.join(2, 3, 2);
        priceIs(c, 4, 40, 12 + 3 * 4, 0, 4);
    }

    private static void promise11PriceOfManyPairings() {
        promise = 11;
        PlanCabinet c = Questions.tables(3, 1);
        c.pair(0, 0, 1, 0, 1);
        c.pair(0, 1, 1, 0, 3);
        c.pair(0, 2, 1, 0, 1);
        c.pair(0, 0, 1, 1, 0);
        c.read(0);
        c.read(1);
        c.join(0, 0, 1);
        due("A of the size", 0, c.price(2, 2));
        due("B: 3 rows, 1 * 3 * 1 of 4 * 4 * 4, a quarter", 3 * 3, c.price(2, 3));
        PlanCabinet great = Questions.tables(8, 8, 8, 8);
        great.pair(0, 0, 1, 0, 4);
        great.pair(0, 0, 2, 0, 4);
        great.pair(0, 0, 3, 0, 4);
        great.order(3, 2);
        for (int t = 0; t < 4; t++) {
            great.read(t);
        }
        great.join(0, 0, 1);
        great.join(0, 4, 2);
        great.join(0, 5, 3);
        priceIs(great, 6, 32 + 64 + 512 + 4096 + 3 * 4096, 0, 4096, 0);
    }

    private static void promise11PriceOfFourTables() {
        promise = 11;
        PlanCabinet c = Questions.tables(4, 4, 4, 4);
        c.pair(0, 0, 1, 0, 0);
        c.pair(1, 0, 2, 0, 1);
        c.pair(2, 0, 3, 0, 1);
        for (int t = 0; t < 4; t++) {
            c.read(t);
        }
        c.join(0, 0, 1);
        c.join(0, 4, 2);
        priceIs(c, 5, 28, 16, 0, 4);
        c.join(0, 3, 5);
        priceIs(c, 6, 32, 16 + 16, 0, 4);
        c.join(1, 5, 3);
        priceIs(c, 7, 32 + 8, 16 + 8, 0, 4);
        c.join(2, 3, 5);
        priceIs(c, 8, 32 + 12, 16 + 12, 0, 4);
        c.join(0, 2, 3);
        c.join(0, 4, 9);
        priceIs(c, 10, 16 + 16 + 16, 4 * 4, 0, 4);
    }

    // ---- the best

    private static void promise12Best() {
        promise = 12;
        PlanCabinet c = new PlanCabinet();
        due("point 33", NONE, c.best(33));
        due("point -1", NONE, c.best(-1));
        due("not whole", STATE, c.best(0));
        due("not whole, point 32", STATE, c.best(32));
        c = Questions.three();
        // 0 and 1 first costs 28 + 16x, 1 and 2 first 44.
        due("at 0", 0, c.best(0));
        codeIs(c, 0, 4, 2, 4, 0, 1);
        due("before 1", 1, c.best(7));
        codeIs(c, 1, 4, 2, 4, 0, 1);
        c.clear();
        c.best(7);
        due("at 1, alike: the FIRST one", 1, c.best(8));
        codeIs(c, 1, 4, 0, 4, 1, 2);
        due("behind 1", 2, c.best(9));
        codeIs(c, 2, 4, 0, 4, 1, 2);
        due("at 4", 3, c.best(32));
        codeIs(c, 3, 4, 0, 4, 1, 2);
        due("plans", 4, c.count(3));
        Questions.fillPlans(c);
        due("full", FULL, c.best(0));
        due("full, point 33", NONE, c.best(33));
        due("full, point HIGH", NONE, c.best(HIGH));
    }

    private static void promise12BestOfSeveral() {
        promise = 12;
        PlanCabinet c = Questions.tables(4, 4);
        c.pair(0, 0, 1, 0, 2);
        due("NEST and DEALT cost alike", 0, c.best(5));
        codeIs(c, 0, 4, 0, 1);
        c.clear();
        c.order(0, 0);
        due("in order pays", 0, c.best(5));
        codeIs(c, 0, 6, 0, 1);
        due("8 and 24", 32 * 256, c.price(0, 0));
        due("in order", 1, c.about(0, 2));
        PlanCabinet start = Questions.tables(1, 2, 4);
        start.pair(0, 0, 2, 0, 0);
        start.pair(0, 0, 1, 0, 1);
        // 11 + 2x with 0 and 2 first, 11 with 0 and 1 first: alike at 0, where no span is.
        due("11 + 2x at 0", 0, start.best(0));
        codeIs(start, 0, 4, 1, 4, 0, 2);
        due("11 behind it", 1, start.best(1));
        codeIs(start, 1, 4, 2, 4, 0, 1);
        due("the keen one", 2, start.keen(0));
        codeIs(start, 2, 4, 2, 4, 0, 1);
        due("no other", 1, start.spans());
        PlanCabinet end = Questions.tables(2, 4, 8);
        end.pair(0, 0, 1, 0, 0);
        end.pair(1, 0, 2, 0, 1);
        // 22 + 16x, from 4/3 on 38 + 4x; and 54 is alike at 4, where no span is.
        due("54 at 4", 0, end.best(32));
        codeIs(end, 0, 4, 0, 5, 1, 2);
        due("38 + 4x before", 1, end.best(31));
        codeIs(end, 1, 5, 2, 4, 0, 1);
        due("two spans", 2, end.spans());
        borderIs(end, 0, 0, 1, 4, 3);
        PlanCabinet one = Questions.tables(5);
        one.order(0, 1);
        due("one table", 0, one.best(0));
        codeIs(one, 0, 0);
        due("5 and 15", 20 * 256, one.price(0, 0));
    }

    private static void promise13Spans() {
        promise = 13;
        PlanCabinet c = new PlanCabinet();
        due("not whole", STATE, c.spans());
        c.table();
        due("no row", STATE, c.spans());
        c.row(0, 0, 0, 0);
        due("one plan", 1, c.spans());
        due("two tables", 1, Questions.two().spans());
        due("three tables", 2, Questions.three().spans());
        due("three spans", 3, Questions.threeSpans().spans());
        due("with an order", 2, Questions.threeInOrder().spans());
        PlanCabinet closed = Questions.tables(4, 4, 4);
        closed.pair(0, 0, 1, 0, 3);
        closed.pair(1, 0, 2, 0, 1);
        due("nothing open", 1, closed.spans());
        PlanCabinet again = Questions.three();
        due("before", 2, again.spans());
        again.row(0, 0, 0, 0);
        again.order(0, 0);
        again.order(-1, 0);
        due("the question has changed", 2, again.spans());
        // 13 + 18 + 20x and 13 + 16 + 18.
        borderIs(again, 0, 0, 1, 4, 5);
    }

    private static void promise14Border() {
        promise = 14;
        PlanCabinet c = new PlanCabinet();
        due("not whole", NO, c.border(0, 0));
        c = Questions.three();
        // From 0 on 28 + 16x; 1 and 2 first: 12 + 16 + 16 = 44 with DEALT or NEST: alike at x = 1.
        borderIs(c, 0, 0, 1, 1, 1);
        borderIs(c, 1, 1, 1, 4, 1);
        due("span 2", NO, c.border(2, 0));
        due("span -1", NO, c.border(-1, 0));
        due("span HIGH", NO, c.border(HIGH, 2));
        due("what 4", NO, c.border(0, 4));
        due("what -1", NO, c.border(0, -1));
        borderIs(Questions.tables(3), 0, 0, 1, 4, 1);
        PlanCabinet fraction = Questions.tables(3, 4, 2);
        fraction.pair(0, 0, 1, 0, 0);
        fraction.pair(1, 0, 2, 0, 1);
        // 9 + 12 + 3x * 2 against 9 + 8 + 2 * 3, NEST each time: 21 + 6x and 23.
        borderIs(fraction, 0, 0, 1, 1, 3);
        borderIs(fraction, 1, 1, 3, 4, 1);
        borderIs(Questions.wide(), 0, 0, 1, 8, 3);
        borderIs(Questions.wide(), 1, 8, 3, 4, 1);
        borderIs(Questions.threeSpans(), 0, 0, 1, 7, 5);
        borderIs(Questions.threeSpans(), 1, 7, 5, 7, 2);
        borderIs(Questions.threeSpans(), 2, 7, 2, 4, 1);
        borderIs(Questions.threeInOrder(), 0, 0, 1, 6, 7);
        borderIs(Questions.threeInOrder(), 1, 6, 7, 4, 1);
        PlanCabinet later = Questions.threeSpans();
        later.spans();
        later.table();
        due("no longer whole", NO, later.border(0, 0));
        due("no longer whole", NO, later.border(1, 3));
    }

    private static void borderIs(PlanCabinet c, int i, int from, int fromBelow, int to, int toBelow) {
        due("border(" + i + ", 0)", from, c.border(i, 0));
        due("border(" + i + ", 1)", fromBelow, c.border(i, 1));
        due("border(" + i + ", 2)", to, c.border(i, 2));
        due("border(" + i + ", 3)", toBelow, c.border(i, 3));
    }

    private static void promise15Keen() {
        promise = 15;
        PlanCabinet c = new PlanCabinet();
        due("not whole", STATE, c.keen(0));
        due("not whole, -1", NONE, c.keen(-1));
        due("not whole, LOW", NONE, c.keen(LOW));
        c = Questions.three();
        due("first", 0, c.keen(0));
        codeIs(c, 0, 4, 2, 4, 0, 1);
        due("second", 1, c.keen(1));
        codeIs(c, 1, 4, 0, 4, 1, 2);
        due("a plan more each time", 2, c.keen(0));
        due("third span", NONE, c.keen(2));
        due("span HIGH", NONE, c.keen(HIGH));
        due("plans", 3, c.count(3));
        Questions.fillPlans(c);
        due("full", FULL, c.keen(0));
        due("full, third", NONE, c.keen(2));
        PlanCabinet more = Questions.threeSpans();
        more.keen(2);
        more.keen(1);
        more.keen(0);
        codeIs(more, 0, 4, 0, 5, 1, 2);
        codeIs(more, 1, 5, 2, 4, 0, 1);
        codeIs(more, 2, 4, 2, 4, 0, 1);
        due("35", 35 * 256, more.price(1, 0));
        due("4x", 4 * 256, more.price(1, 1));
        PlanCabinet order = Questions.threeInOrder();
        order.keen(0);
        order.keen(1);
        codeIs(order, 0, 4, 2, 4, 0, 1);
        codeIs(order, 1, 6, 0, 4, 1, 2);
        priceIs(order, 0, 28, 28, 0, 4);
        priceIs(order, 1, 52, 0, 0, 4);
        due("not in order", 0, order.about(0, 2));
        due("in order", 1, order.about(1, 2));
        due("full, -1", NONE, c.keen(-1));
    }

    private static void promise16Near() {
        promise = 16;
        PlanCabinet c = Questions.three();
        c.keen(0);
        c.keen(1);
        c.read(0);
        // At x = 0 28 against 44: a regret of 1 and 4 / 7; at x = 4 92 against 44: 2 and 1 / 11.
        due("the least itself", 1, c.near(0, 0, 0));
        due("57 hundredths", 0, c.near(1, 0, 57));
        due("58 hundredths", 1, c.near(1, 0, 58));
        due("109 hundredths", 0, c.near(0, 32, 109));
        due("110 hundredths", 1, c.near(0, 32, 110));
        due("both at the border", 1, c.near(0, 8, 0));
        due("both at the border", 1, c.near(1, 8, 0));
        due("behind it", 0, c.near(0, 9, 0));
        due("most", 1, c.near(0, 32, 10000));
        due("no plan", NONE, c.near(3, 0, 0));
        due("plan -1", NONE, c.near(-1, 0, 0));
        due("point 33", NONE, c.near(0, 33, 0));
        due("point -1", NONE, c.near(0, -1, 0));
        due("point and d", NONE, c.near(0, 33, -1));
        due("d -1", BAD, c.near(0, 0, -1));
        due("d 10001", BAD, c.near(0, 0, 10001));
        due("d and not whole", BAD, c.near(2, 0, 10001));
        due("not a whole one", STATE, c.near(2, 0, 0));
        due("not a whole one, point", NONE, c.near(2, 33, 0));
        PlanCabinet even = Questions.wide();
        even.keen(0);
        even.keen(1);
        due("exactly 20 hundredths", 1, even.near(0, 32, 20));
        due("not 19", 0, even.near(0, 32, 19));
        due("exactly twice", 1, even.near(1, 0, 100));
        due("not 99", 0, even.near(1, 0, 99));
        PlanCabinet exact = Questions.tables(4, 4);
        exact.pair(0, 0, 1, 0, 4);
        exact.read(0);
        exact.read(1);
        exact.join(2, 0, 1);
        // 32 against 24: exactly 1 and a third.
        due("33 hundredths", 0, exact.near(2, 3, 33));
        due("34 hundredths", 1, exact.near(2, 3, 34));
    }

    private static void promise17Worst() {
        promise = 17;
        PlanCabinet c = Questions.three();
        c.keen(0);
        c.keen(1);
        c.read(0);
        due("grows to the end", 32, c.worst(0));
        due("at the start", 0, c.worst(1));
        due("not a whole one", STATE, c.worst(2));
        due("no plan", NONE, c.worst(3));
        due("plan -1", NONE, c.worst(-1));
        c.read(1);
        c.read(2);
        c.join(2, 2, 3);
        c.join(0, 5, 4);
        // 36 + 16x: 36 / 28 at 0 falls to 52 / 44 at 1 and grows to 100 / 44 at 4.
        due("both ends dearer", 32, c.worst(6));
        PlanCabinet flat = Questions.two();
        flat.best(0);
        due("1 everywhere: the least point", 0, flat.worst(0));
        PlanCabinet wide = Questions.wide();
        wide.keen(0);
        wide.keen(1);
        due("first of two", 32, wide.worst(0));
        due("second of two", 0, wide.worst(1));
    }

    private static void promise18Blind() {
        promise = 18;
        due("not whole", STATE, new PlanCabinet().blind());
        due("one span", 0, Questions.two().blind());
        // Greatest regrets 92 / 44 and 44 / 28.
        due("the second one", 1, Questions.three().blind());
        due("the first one", 0, Questions.wide().blind());
        // 77 / 49, 35 / 21 and 49 / 21.
        due("the first of three", 0, Questions.threeSpans().blind());
        // 140 / 52 and 52 / 28.
        due("with an order", 1, Questions.threeInOrder().blind());
        // Without an OPEN share all regrets of the one keen plan are 1.
        PlanCabinet closed = Questions.tables(2, 2);
        closed.pair(0, 0, 1, 0, 2);
        due("nothing open", 0, closed.blind());
    }

    private static void promise19Cover() {
        promise = 19;
        PlanCabinet c = new PlanCabinet();
        due("d -1", BAD, c.cover(-1));
        due("d 10001", BAD, c.cover(10001));
        due("not whole", STATE, c.cover(0));
        due("not whole, most", STATE, c.cover(10000));
        c = Questions.three();
        // Alone the first one needs 110 hundredths, the second one 58.
        due("0", 3, c.cover(0));
        due("57", 3, c.cover(57));
        due("58", 2, c.cover(58));
        due("109", 2, c.cover(109));
        due("110", 1, c.cover(110));
        due("10000", 1, c.cover(10000));
        due("exactly 20", 1, Questions.wide().cover(20));
        due("not 19", 3, Questions.wide().cover(19));
        due("the first of two that are enough", 1, Questions.wide().cover(100));
        // The first two need 51 / 49 at 4, the first one alone 77 / 49.
        due("three", 7, Questions.threeSpans().cover(4));
        due("two", 3, Questions.threeSpans().cover(5));
        due("the first two of those that are enough", 3, Questions.threeSpans().cover(57));
        due("one", 1, Questions.threeSpans().cover(58));
        due("one span", 1, Questions.two().cover(0));
        due("d HIGH", BAD, c.cover(HIGH));
        due("no plans come", 0, c.count(3));
    }

    // ---- runs

    private static void outIs(PlanCabinet c, int... rows) {
        for (int i = 0; i < rows.length / 2; i++) {
            due("out(" + i + ", 0)", rows[2 * i], c.out(i, 0));
            due("out(" + i + ", 1)", rows[2 * i + 1], c.out(i, 1));
        }
        due("out(end, 0)", NONE, c.out(rows.length / 2, 0));
    }

    private static void promise20Run() {
        promise = 20;
        PlanCabinet c = Questions.mixed();
        due("no plan", NONE, c.run(0));
        c.read(0);
        c.read(1);
        c.join(0, 0, 1);
        c.join(1, 1, 0);
        due("READ", 4, c.run(0));
        due("a row", 2, c.out(2, 0));
        due("not of the other table", NONE, c.out(2, 1));
        due("NEST", 6, c.run(2));
        outIs(c, 0, 2, 1, 0, 1, 3, 2, 1, 3, 0, 3, 3);
        due("DEALT", 6, c.run(3));
        outIs(c, 1, 0, 3, 0, 2, 1, 0, 2, 1, 3, 3, 3);
        due("plan 4", NONE, c.run(4));
        due("plan -1", NONE, c.run(-1));
        outIs(c, 1, 0, 3, 0, 2, 1, 0, 2, 1, 3, 3, 3);
        PlanCabinet both = Questions.mixed();
        both.pair(0, 1, 1, 1, 1);
        both.read(0);
        both.read(1);
        both.join(0, 0, 1);
        due("all pairings between hold", 3, both.run(2));
        outIs(both, 0, 2, 1, 3, 3, 3);
        PlanCabinet never = Questions.tables(2, 2);
        never.pair(0, 2, 1, 0, 1);
        never.read(0);
        never.read(1);
        never.join(1, 0, 1);
        due("none holds", 0, never.run(2));
        due("no combination", NONE, never.out(0, 0));
    }

    private static void promise20RunSorted() {
        promise = 20;
        PlanCabinet c = Questions.mixed();
        c.read(0);
        c.read(1);
        c.join(2, 0, 1);
        c.join(2, 1, 0);
        due("SORTED", 6, c.run(2));
        outIs(c, 1, 0, 1, 3, 3, 0, 3, 3, 2, 1, 0, 2);
        due("SORTED, turned", 6, c.run(3));
        outIs(c, 1, 0, 3, 0, 1, 3, 3, 3, 2, 1, 0, 2);
        PlanCabinet signs = new PlanCabinet();
        signs.table();
        signs.table();
        int[] values = {HIGH, 0, LOW, -1};
        for (int value : values) {
            signs.row(0, value, 0, 0);
            signs.row(1, value, 0, 0);
        }
        signs.pair(0, 0, 1, 0, 1);
        signs.read(0);
        signs.read(1);
        signs.join(2, 0, 1);
        due("signs", 4, signs.run(2));
        outIs(signs, 2, 2, 3, 3, 1, 1, 0, 0);
        sortedByColumnsOfEachSide();
        PlanCabinet least = Questions.mixed();
        least.pair(0, 2, 1, 2, 2);
        least.read(0);
        least.read(1);
        least.join(2, 0, 1);
        due("by the least pairing", 1, least.run(2));
        outIs(least, 3, 3);
    }

    private static void sortedByColumnsOfEachSide() {
        PlanCabinet c = new PlanCabinet();
        c.table();
        c.table();
        // Eight values that fall, each in a column of its own number; the other columns rise.
        for (int row = 0; row < 8; row++) {
            c.row(0, row, -row, row);
            c.row(1, row, row, -row);
        }
        c.pair(0, 1, 1, 2, 1);
        c.order(1, 0);
        c.read(0);
        c.read(1);
        c.join(2, 0, 1);
        c.join(2, 1, 0);
        due("put in order again", 8, c.run(3));
        outIs(c, 0, 0, 1, 1, 2, 2, 3, 3, 4, 4, 5, 5, 6, 6, 7, 7);
        c.clear();
        c.order(1, 2);
        c.read(0);
        c.read(1);
        c.join(2, 0, 1);
        c.join(2, 1, 0);
        for (int plan = 2; plan < 4; plan++) {
            due("falling rows", 8, c.run(plan));
            outIs(c, 7, 7, 6, 6, 5, 5, 4, 4, 3, 3, 2, 2, 1, 1, 0, 0);
            due("in order", 16 + 48, c.steps());
        }
        PlanCabinet small = Questions.tables(0, 0);
        for (int row = 0; row < 2; row++) {
            small.row(0, -row, 0, 0);
            small.row(1, -row, 0, 0);
        }
        small.pair(0, 0, 1, 0, 1);
        small.read(0);
        small.read(1);
        small.join(2, 0, 1);
        due("two falling rows", 2, small.run(2));
        outIs(small, 1, 1, 0, 0);
    }

    private static void promise20RunInOrder() {
        promise = 20;
        PlanCabinet c = Questions.mixed();
        c.order(1, 2);
        c.read(0);
        c.read(1);
        c.join(0, 0, 1);
        c.join(2, 0, 1);
        due("READ is not a whole one", 4, c.run(1));
        due("as they were", 0, c.out(0, 1));
        due("NEST", 6, c.run(2));
        outIs(c, 1, 3, 3, 3, 0, 2, 2, 1, 1, 0, 3, 0);
        due("16 and 8 and 3 * 6", 42, c.steps());
        due("SORTED, not in order", 6, c.run(3));
        outIs(c, 1, 3, 3, 3, 0, 2, 2, 1, 1, 0, 3, 0);
        due("8 and 24 and 3 * 6", 50, c.steps());
        c.clear();
        c.order(1, 0);
        c.read(0);
        c.read(1);
        c.join(2, 0, 1);
        due("SORTED, in order", 6, c.run(2));
        outIs(c, 1, 0, 1, 3, 3, 0, 3, 3, 2, 1, 0, 2);
        due("8 and 24", 32, c.steps());
        PlanCabinet one = Questions.tables(0);
        one.row(0, 5, 0, 0);
        one.row(0, 4, 0, 0);
        one.row(0, 5, 1, 0);
        one.order(0, 0);
        one.read(0);
        due("one table", 3, one.run(0));
        due("least", 1, one.out(0, 0));
        due("then as they were", 0, one.out(1, 0));
        due("then as they were", 2, one.out(2, 0));
        due("3 and 9", 12, one.steps());
    }

    private static void promise20RunOfAll() {
        promise = 20;
        PlanCabinet c = Questions.tables(8, 8, 8, 8);
        c.pair(0, 2, 1, 2, 4);
        c.pair(1, 2, 2, 2, 4);
        c.pair(2, 2, 3, 2, 4);
        c.order(3, 1);
        for (int t = 0; t < 4; t++) {
            c.read(t);
        }
        c.join(2, 0, 1);
        c.join(1, 4, 2);
        c.join(0, 5, 3);
        c.join(0, 2, 3);
        c.join(0, 4, 7);
        due("all combinations", 4096, c.run(6));
        due("the price", c.price(6, 0), 256L * c.steps());
        due("the first", 0, c.out(0, 3));
        due("those alike as they were", 1, c.out(1, 2));
        due("the next in order", 1, c.out(512, 3));
        due("the last", 7, c.out(4095, 0));
        due("behind it", NONE, c.out(4096, 0));
        due("both halves", 4096, c.run(8));
        due("32 and 48 and 64 and 4096 and 3 * 4096", 32 + 48 + 64 + 4 * 4096, c.steps());
        due("out", 7, c.out(4095, 3));
        PlanCabinet grown = Questions.tables(1);
        grown.read(0);
        grown.run(0);
        grown.clear();
        for (int row = 1; row < 8; row++) {
            grown.row(0, row, row, row);
        }
        grown.read(0);
        due("more rows than at the run before", 8, grown.run(0));
        due("the last of them", 7, grown.out(7, 0));
    }

    private static void promise21Steps() {
        promise = 21;
        PlanCabinet c = Questions.mixed();
        due("no run", 0, c.steps());
        c.read(0);
        c.read(1);
        c.join(0, 0, 1);
        c.join(1, 0, 1);
        c.join(2, 0, 1);
        due("no run yet", 0, c.steps());
        c.run(0);
        due("READ", 4, c.steps());
        c.run(2);
        due("NEST", 8 + 16, c.steps());
        c.run(3);
        due("DEALT", 8 + 16, c.steps());
        c.run(4);
        due("SORTED", 8 + 24, c.steps());
        c.run(5);
        due("a refused run changes nothing", 32, c.steps());
        PlanCabinet d = Questions.three();
        d.read(0);
        d.read(1);
        d.read(2);
        d.join(1, 0, 1);
        d.join(1, 3, 2);
        d.join(0, 2, 3);
        d.run(4);
        due("4 combinations, as the tables are", 12 + 16 + 16, d.steps());
        d.run(5);
        due("4 times 4", 12 + 16 + 16, d.steps());
    }

    private static void promise22Out() {
        promise = 22;
        PlanCabinet c = Questions.three();
        c.read(0);
        c.read(1);
        c.join(0, 0, 1);
        due("no run", NONE, c.out(0, 0));
        c.run(2);
        due("row of 0", 3, c.out(3, 0));
        due("row of 1", 3, c.out(3, 1));
        due("not in the plan", NONE, c.out(3, 2));
        due("no table 3", NONE, c.out(3, 3));
        due("no table 4", NONE, c.out(3, 4));
        due("no table -1", NONE, c.out(3, -1));
        due("no table HIGH", NONE, c.out(3, HIGH));
        due("combination 4", NONE, c.out(4, 0));
        due("combination -1", NONE, c.out(-1, 0));
        due("combination LOW", NONE, c.out(LOW, 0));
        c.run(1);
        due("the latest run", 3, c.out(3, 1));
        due("no longer in it", NONE, c.out(3, 0));
        c.clear();
        due("after clear", 3, c.out(3, 1));
    }

    private static void promise23Holds() {
        promise = 23;
        PlanCabinet c = Questions.mixed();
        due("six", 6, c.holds(0));
        due("pairing 1", NONE, c.holds(1));
        due("pairing -1", NONE, c.holds(-1));
        c.pair(0, 1, 1, 1, 4);
        due("eight", 8, c.holds(1));
        c.pair(0, 2, 1, 0, 0);
        due("none", 0, c.holds(2));
        c.table();
        c.pair(1, 0, 2, 0, 1);
        due("a table without rows", 0, c.holds(3));
        due("pairing 4", NONE, c.holds(4));
        due("pairing LOW", NONE, c.holds(LOW));
        PlanCabinet all = Questions.tables(8, 8);
        all.pair(0, 2, 1, 2, 1);
        due("all", 64, all.holds(0));
    }

    private static void promise24Count() {
        promise = 24;
        PlanCabinet c = Questions.tables(2, 3, 0);
        due("tables", 3, c.count(0));
        due("rows", 5, c.count(1));
        due("pairings", 0, c.count(2));
        due("plans", 0, c.count(3));
        due("open", NONE, c.count(4));
        c.pair(0, 0, 1, 0, 3);
        c.pair(1, 0, 2, 0, 0);
        due("pairings", 2, c.count(2));
        due("open", 1, c.count(4));
        due("a table has no row", 0, c.count(5));
        due("no whole plans", 0, c.count(6));
        c.row(2, 0, 0, 0);
        due("whole", 1, c.count(5));
        c.read(0);
        c.best(3);
        due("plans", 2, c.count(3));
        due("what 7", NONE, c.count(7));
        due("what -1", NONE, c.count(-1));
        due("what LOW", NONE, c.count(LOW));
        PlanCabinet apart = Questions.tables(1, 1, 1, 1);
        apart.pair(0, 0, 1, 0, 1);
        apart.pair(2, 0, 3, 0, 1);
        due("two and two apart", 0, apart.count(5));
        apart.pair(1, 0, 3, 0, 0);
        due("joined by an open one", 1, apart.count(5));
        PlanCabinet late = Questions.tables(1, 1, 1, 1);
        late.pair(2, 0, 3, 0, 1);
        late.pair(1, 0, 2, 0, 1);
        late.pair(0, 0, 1, 0, 1);
        due("joined by others", 1, late.count(5));
    }

    private static void promise24CountOfWholePlans() {
        promise = 24;
        due("no table", 0, new PlanCabinet().count(6));
        due("one table", 1, Questions.tables(2).count(6));
        due("two: 3 kinds, 2 orders", 6, Questions.two().count(6));
        due("three in a row: 9 * 8", 72, Questions.three().count(6));
        PlanCabinet triangle = Questions.three();
        triangle.pair(0, 1, 2, 1, 2);
        due("a triangle: 9 * 12", 108, triangle.count(6));
        triangle.pair(0, 2, 2, 1, 2);
        due("a second pairing of two tables", 108, triangle.count(6));
        PlanCabinet ring = Questions.tables(1, 1, 1, 1);
        ring.pair(0, 0, 1, 0, 1);
        ring.pair(1, 0, 2, 0, 1);
        ring.pair(2, 0, 3, 0, 1);
        due("four in a row: 27 * 40", 1080, ring.count(6));
        ring.pair(0, 0, 3, 0, 1);
        due("a ring: 27 * 80", 2160, ring.count(6));
        PlanCabinet star = Questions.tables(1, 1, 1, 1);
        star.pair(0, 0, 1, 0, 1);
        star.pair(0, 0, 2, 0, 1);
        star.pair(0, 0, 3, 0, 1);
        due("a star: 27 * 48", 1296, star.count(6));
        star.pair(1, 0, 2, 0, 1);
        due("a star with a side: 27 * 64", 1728, star.count(6));
    }

    /** Of all refusals at once: the state answers afterwards what it did before. */
    private static void refusalsChangeNothing() {
        promise = 0;
        PlanCabinet c = Questions.three();
        c.order(1, 0);
        c.read(0);
        c.read(1);
        c.join(0, 0, 1);
        c.run(2);
        long before = stateOf(c);
        c.table();
        c.row(0, 1, 1, 1);
        c.pair(0, 0, 1, 0, 1);
        c.order(-1, 0);
        c.read(7);
        c.join(0, 2, 1);
        c.best(40);
        c.keen(40);
        c.run(40);
        c.near(0, 0, 0);
        c.worst(0);
        c.cover(-1);
        due("state", before, stateOf(c));
    }

    private static long stateOf(PlanCabinet c) {
        long state = c.steps();
        for (int what = 0; what < 7; what++) {
            state = state * 31 + c.count(what);
        }
        for (int plan = 0; plan < c.count(3); plan++) {
            for (int what = 0; what < 4; what++) {
                state = state * 31 + c.about(plan, what);
                state = state * 31 + c.price(plan, what);
            }
        }
        for (int i = 0; i < 5; i++) {
            state = state * 31 + c.out(i, 0);
            state = state * 31 + c.border(i, 2);
        }
        return state * 31 + c.blind();
    }
}
