import java.util.function.Supplier;
import java.util.function.ToLongFunction;

/**
 * Every refused call, alone and with each later refusal that can hold at once, and that it changes
 * nothing: an object that was refused answers what a twin answers that was not asked.
 */
public final class RefusalTest {
    private static final int NONE = Questions.NONE;
    private static final int BAD = Questions.BAD;
    private static final int STATE = Questions.STATE;
    private static final int FULL = Questions.FULL;
    private static final long NO = Questions.NO;

    public static void main(String[] args) {
        table();
        row();
        pair();
        order();
        read();
        join();
        code();
        best();
        spansAndBorder();
        keen();
        near();
        worstBlindCover();
        runs();
        Check.end("RefusalTest");
    }

    // ---- questions, each made anew for every look at it

    private static PlanCabinet empty() {
        return new PlanCabinet();
    }

    /** Not WHOLE: the second table has no row. */
    private static PlanCabinet noRow() {
        PlanCabinet c = Questions.tables(2, 0);
        c.pair(0, 0, 1, 0, 2);
        c.order(0, 1);
        return c;
    }

    /** All tables, a full table, all pairings, one of them OPEN, an order; no plan. */
    private static PlanCabinet full() {
        PlanCabinet c = Questions.ring();
        for (int row = 2; row < 8; row++) {
            c.row(0, row, 0, 7);
        }
        c.order(1, 2);
        return c;
    }

    /** The same with plans: 0 to 3 READs, 4 of 0 and 1, 5 a whole one; 4 has been run. */
    private static PlanCabinet fullWithPlans() {
        PlanCabinet c = Questions.readAll(full());
        c.join(1, 0, 1);
        c.best(9);
        c.run(4);
        return c;
    }

    private static PlanCabinet fullOfPlans() {
        return Questions.fillPlans(fullWithPlans());
    }

    /** Three tables, an order: 0 to 2 READs, 3 of 0 and 1, 4 and 5 whole ones; 4 has been run. */
    private static PlanCabinet withPlans() {
        PlanCabinet c = Questions.readAll(Questions.threeInOrder());
        c.join(2, 0, 1);
        c.keen(0);
        c.keen(1);
        c.run(4);
        return c;
    }

    private static PlanCabinet ofSixty() {
        return Questions.fillPlans(withPlans());
    }

    private static PlanCabinet threeOpen() {
        return Questions.threeInOrder();
    }

    private static PlanCabinet onlyPairingsFull() {
        PlanCabinet c = Questions.tables(2, 2);
        for (int p = 0; p < 4; p++) {
            c.pair(0, 0, 1, 0, 4);
        }
        return c;
    }

    // ---- the looks: each stays below 512 calls with what its object has had before

    private static void refused(String what, long due, Supplier<PlanCabinet> made,
            ToLongFunction<PlanCabinet> call) {
        for (int look = 0; look < 6; look++) {
            PlanCabinet twin = made.get();
            PlanCabinet c = made.get();
            Check.due(what, due, call.applyAsLong(c));
            Check.due(what + " again", due, call.applyAsLong(c));
            Check.holds(what + " changes nothing, look " + look,
                seen(twin, look).equals(seen(c, look)));
        }
    }

    private static String seen(PlanCabinet c, int look) {
        StringBuilder seen = new StringBuilder();
        switch (look) {
            case 0: question(c, seen); break;
            case 1: plans(c, seen); break;
            case 2: bests(c, seen); break;
            case 3: latestRun(c, seen); break;
            case 4: whatComesNext(c, seen); break;
            default: withoutPlans(c, seen); break;
        }
        return seen.toString();
    }

    private static void add(StringBuilder seen, long answer) {
        seen.append(answer).append(' ');
    }

    private static void question(PlanCabinet c, StringBuilder seen) {
        for (int k = 0; k < 8; k++) {
            add(seen, c.count(k));
            add(seen, c.holds(k));
        }
    }

    private static void plans(PlanCabinet c, StringBuilder seen) {
        for (int plan = 0; plan < 61; plan++) {
            add(seen, c.code(plan, 0));
            add(seen, c.about(plan, 0));
            add(seen, c.price(plan, 0));
            add(seen, c.price(plan, 1));
        }
        for (int k = 0; k < 7; k++) {
            add(seen, c.code(4, k));
            add(seen, c.code(5, k));
        }
    }

    private static void bests(PlanCabinet c, StringBuilder seen) {
        add(seen, c.spans());
        for (int i = 0; i < 5; i++) {
            for (int what = 0; what < 4; what++) {
                add(seen, c.border(i, what));
            }
        }
        add(seen, c.blind());
        for (int k = 0; k < 33; k++) {
            add(seen, c.cover(5 * k));
            add(seen, c.near(4, k, 30));
            add(seen, c.near(5, k, 30));
        }
        add(seen, c.worst(4));
        add(seen, c.worst(5));
    }

    private static void latestRun(PlanCabinet c, StringBuilder seen) {
        add(seen, c.steps());
        for (int i = 0; i < 50; i++) {
            for (int t = 0; t < 4; t++) {
                add(seen, c.out(i, t));
            }
        }
    }

    /** Numbers of what is made next, while there are the plans that there are. */
    private static void whatComesNext(PlanCabinet c, StringBuilder seen) {
        add(seen, c.read(0));
        add(seen, c.join(0, 0, 1));
        add(seen, c.best(3));
        add(seen, c.keen(0));
        add(seen, c.run(1));
        add(seen, c.steps());
        add(seen, c.out(1, 1));
        add(seen, c.clear());
    }

    /** The order can't be asked for: it is seen by what plans cost that are made anew. */
    private static void withoutPlans(PlanCabinet c, StringBuilder seen) {
        add(seen, c.clear());
        for (int point = 0; point < 33; point += 4) {
            int plan = c.best(point);
            add(seen, plan);
            for (int what = 0; what < 4; what++) {
                add(seen, c.price(plan, what));
            }
            add(seen, c.run(plan));
            add(seen, c.steps());
            for (int t = 0; t < 4; t++) {
                add(seen, c.out(1, t));
            }
        }
        add(seen, c.clear());
        add(seen, c.order(0, 0));
        add(seen, c.pair(0, 0, 1, 0, 3));
        add(seen, c.pair(0, 0, 1, 0, 0));
        for (int t = 0; t < 4; t++) {
            add(seen, c.row(t, 1, 1, 1));
        }
        add(seen, c.table());
        add(seen, c.count(1));
    }

    // ---- the question

    private static void table() {
        Check.sentence("2");
        refused("STATE", STATE, RefusalTest::withPlans, c -> c.table());
        refused("STATE, FULL", STATE, RefusalTest::fullWithPlans, c -> c.table());
        refused("FULL", FULL, RefusalTest::full, c -> c.table());
    }

    private static void row() {
        Check.sentence("3");
        refused("NONE", NONE, RefusalTest::empty, c -> c.row(0, 1, 2, 3));
        refused("NONE", NONE, RefusalTest::noRow, c -> c.row(2, 1, 2, 3));
        refused("NONE below", NONE, RefusalTest::noRow, c -> c.row(-1, 1, 2, 3));
        refused("NONE, STATE", NONE, RefusalTest::withPlans, c -> c.row(3, 1, 2, 3));
        refused("STATE", STATE, RefusalTest::withPlans, c -> c.row(0, 1, 2, 3));
        refused("STATE, FULL", STATE, RefusalTest::fullWithPlans, c -> c.row(0, 1, 2, 3));
        refused("FULL", FULL, RefusalTest::full, c -> c.row(0, 1, 2, 3));
    }

    private static void pair() {
        Check.sentence("4");
        refused("NONE", NONE, RefusalTest::empty, c -> c.pair(0, 0, 1, 0, 1));
        refused("NONE, t", NONE, RefusalTest::threeOpen, c -> c.pair(-1, 0, 1, 0, 1));
        refused("NONE, column", NONE, RefusalTest::threeOpen, c -> c.pair(0, 3, 1, 0, 1));
        refused("NONE, u", NONE, RefusalTest::threeOpen, c -> c.pair(0, 0, 3, 0, 1));
        refused("NONE, other", NONE, RefusalTest::threeOpen, c -> c.pair(0, 0, 1, -1, 1));
        refused("NONE, BAD", NONE, RefusalTest::threeOpen, c -> c.pair(0, 0, 3, 0, 5));
        refused("NONE, STATE", NONE, RefusalTest::withPlans, c -> c.pair(0, 0, 3, 0, 1));
        refused("NONE, OPEN", NONE, RefusalTest::threeOpen, c -> c.pair(0, 0, 3, 0, 0));
        refused("NONE, FULL", NONE, RefusalTest::full, c -> c.pair(0, 0, 1, 3, 1));
        refused("BAD, u", BAD, RefusalTest::threeOpen, c -> c.pair(1, 0, 1, 0, 1));
        refused("BAD, share", BAD, RefusalTest::threeOpen, c -> c.pair(0, 0, 1, 0, 5));
        refused("BAD, share", BAD, RefusalTest::threeOpen, c -> c.pair(0, 0, 1, 0, -1));
        refused("BAD, STATE", BAD, RefusalTest::withPlans, c -> c.pair(2, 0, 1, 0, 1));
        refused("BAD, OPEN", BAD, RefusalTest::threeOpen, c -> c.pair(2, 0, 1, 0, 0));
        refused("BAD, FULL", BAD, RefusalTest::full, c -> c.pair(0, 0, 1, 0, 5));
        refused("STATE", STATE, RefusalTest::withPlans, c -> c.pair(0, 0, 1, 0, 1));
        refused("STATE, FULL", STATE, RefusalTest::fullWithPlans, c -> c.pair(0, 0, 1, 0, 1));
        refused("OPEN", STATE, RefusalTest::threeOpen, c -> c.pair(0, 0, 1, 0, 0));
        refused("OPEN, FULL", STATE, RefusalTest::full, c -> c.pair(0, 0, 1, 0, 0));
        refused("FULL", FULL, RefusalTest::full, c -> c.pair(0, 0, 1, 0, 1));
        refused("FULL, none OPEN", FULL, RefusalTest::onlyPairingsFull,
            c -> c.pair(0, 0, 1, 0, 0));
    }

    private static void order() {
        Check.sentence("5");
        refused("NONE", NONE, RefusalTest::empty, c -> c.order(0, 0));
        refused("NONE, t", NONE, RefusalTest::threeOpen, c -> c.order(3, 0));
        refused("NONE, t", NONE, RefusalTest::threeOpen, c -> c.order(-2, 0));
        refused("NONE, column", NONE, RefusalTest::threeOpen, c -> c.order(1, 3));
        refused("NONE, STATE", NONE, RefusalTest::withPlans, c -> c.order(1, -1));
        refused("STATE", STATE, RefusalTest::withPlans, c -> c.order(1, 1));
        refused("STATE, none", STATE, RefusalTest::withPlans, c -> c.order(-1, 9));
    }

    // ---- plans

    private static void read() {
        Check.sentence("7");
        refused("NONE", NONE, RefusalTest::threeOpen, c -> c.read(3));
        refused("NONE, STATE", NONE, RefusalTest::noRow, c -> c.read(2));
        refused("NONE, STATE", NONE, RefusalTest::empty, c -> c.read(0));
        refused("NONE, FULL", NONE, RefusalTest::ofSixty, c -> c.read(-1));
        refused("STATE", STATE, RefusalTest::noRow, c -> c.read(0));
        refused("FULL", FULL, RefusalTest::ofSixty, c -> c.read(0));
    }

    private static void join() {
        Check.sentence("8");
        refused("NONE", NONE, RefusalTest::empty, c -> c.join(0, 0, 0));
        refused("NONE, left", NONE, RefusalTest::withPlans, c -> c.join(0, 6, 0));
        refused("NONE, right", NONE, RefusalTest::withPlans, c -> c.join(0, 0, -1));
        refused("NONE, BAD", NONE, RefusalTest::withPlans, c -> c.join(3, 0, 6));
        refused("NONE, FULL", NONE, RefusalTest::ofSixty, c -> c.join(0, 60, 0));
        refused("BAD", BAD, RefusalTest::withPlans, c -> c.join(3, 0, 1));
        refused("BAD, STATE", BAD, RefusalTest::withPlans, c -> c.join(-1, 0, 0));
        refused("BAD, STATE", BAD, RefusalTest::withPlans, c -> c.join(3, 0, 2));
        refused("BAD, FULL", BAD, RefusalTest::ofSixty, c -> c.join(3, 0, 1));
        refused("STATE, in both", STATE, RefusalTest::withPlans, c -> c.join(0, 3, 1));
        refused("STATE, no pairing", STATE, RefusalTest::withPlans, c -> c.join(0, 0, 2));
        refused("STATE, FULL", STATE, RefusalTest::ofSixty, c -> c.join(0, 3, 1));
        refused("STATE, FULL", STATE, RefusalTest::ofSixty, c -> c.join(0, 2, 0));
        refused("FULL", FULL, RefusalTest::ofSixty, c -> c.join(0, 0, 1));
        refused("FULL", FULL, RefusalTest::fullOfPlans, c -> c.join(2, 4, 2));
    }

    private static void code() {
        Check.sentence("9 to 11");
        refused("code, plan", NONE, RefusalTest::withPlans, c -> c.code(6, 0));
        refused("code, number", NONE, RefusalTest::withPlans, c -> c.code(5, 5));
        refused("about, plan", NONE, RefusalTest::withPlans, c -> c.about(-1, 0));
        refused("about, number", NONE, RefusalTest::withPlans, c -> c.about(5, 4));
        refused("price, plan", NO, RefusalTest::withPlans, c -> c.price(6, 0));
        refused("price, number", NO, RefusalTest::withPlans, c -> c.price(5, 4));
        refused("price, not WHOLE", NO, RefusalTest::noRow, c -> c.price(0, 0));
    }

    // ---- the best

    private static void best() {
        Check.sentence("12");
        refused("NONE", NONE, RefusalTest::withPlans, c -> c.best(33));
        refused("NONE, STATE", NONE, RefusalTest::noRow, c -> c.best(-1));
        refused("NONE, FULL", NONE, RefusalTest::ofSixty, c -> c.best(33));
        refused("STATE", STATE, RefusalTest::noRow, c -> c.best(0));
        refused("STATE", STATE, RefusalTest::empty, c -> c.best(32));
        refused("FULL", FULL, RefusalTest::ofSixty, c -> c.best(32));
    }

    private static void spansAndBorder() {
        Check.sentence("13 and 14");
        refused("STATE", STATE, RefusalTest::empty, c -> c.spans());
        refused("STATE", STATE, RefusalTest::noRow, c -> c.spans());
        refused("NO, not WHOLE", NO, RefusalTest::noRow, c -> c.border(0, 0));
        refused("NO, span", NO, RefusalTest::withPlans, c -> c.border(2, 0));
        refused("NO, span", NO, RefusalTest::threeOpen, c -> c.border(-1, 0));
        refused("NO, number", NO, RefusalTest::threeOpen, c -> c.border(0, 4));
    }

    private static void keen() {
        Check.sentence("15");
        refused("NONE", NONE, RefusalTest::withPlans, c -> c.keen(2));
        refused("NONE", NONE, RefusalTest::threeOpen, c -> c.keen(-1));
        refused("NONE, STATE", NONE, RefusalTest::noRow, c -> c.keen(-1));
        refused("NONE, FULL", NONE, RefusalTest::ofSixty, c -> c.keen(2));
        refused("STATE", STATE, RefusalTest::noRow, c -> c.keen(0));
        refused("FULL", FULL, RefusalTest::ofSixty, c -> c.keen(1));
    }

    private static void near() {
        Check.sentence("16");
        refused("NONE, not WHOLE", NONE, RefusalTest::noRow, c -> c.near(0, 0, 0));
        refused("NONE, plan", NONE, RefusalTest::withPlans, c -> c.near(6, 0, 0));
        refused("NONE, point", NONE, RefusalTest::withPlans, c -> c.near(4, 33, 0));
        refused("NONE, BAD", NONE, RefusalTest::withPlans, c -> c.near(4, -1, 10001));
        refused("NONE, BAD", NONE, RefusalTest::withPlans, c -> c.near(-1, 0, -1));
        refused("NONE, STATE", NONE, RefusalTest::withPlans, c -> c.near(3, 33, 0));
        refused("BAD", BAD, RefusalTest::withPlans, c -> c.near(4, 0, 10001));
        refused("BAD, STATE", BAD, RefusalTest::withPlans, c -> c.near(3, 0, -1));
        refused("STATE", STATE, RefusalTest::withPlans, c -> c.near(3, 0, 0));
    }

    private static void worstBlindCover() {
        Check.sentence("17 to 19");
        refused("worst, NONE", NONE, RefusalTest::withPlans, c -> c.worst(6));
        refused("worst, NONE, not WHOLE", NONE, RefusalTest::noRow, c -> c.worst(0));
        refused("worst, STATE", STATE, RefusalTest::withPlans, c -> c.worst(0));
        refused("blind, STATE", STATE, RefusalTest::noRow, c -> c.blind());
        refused("cover, BAD", BAD, RefusalTest::withPlans, c -> c.cover(10001));
        refused("cover, BAD, STATE", BAD, RefusalTest::noRow, c -> c.cover(-1));
        refused("cover, STATE", STATE, RefusalTest::noRow, c -> c.cover(0));
    }

    // ---- runs

    private static void runs() {
        Check.sentence("20 to 24");
        refused("run", NONE, RefusalTest::withPlans, c -> c.run(6));
        refused("run", NONE, RefusalTest::ofSixty, c -> c.run(60));
        refused("run", NONE, RefusalTest::withPlans, c -> c.run(-1));
        refused("out, combination", NONE, RefusalTest::withPlans, c -> c.out(4, 0));
        refused("out, combination", NONE, RefusalTest::withPlans, c -> c.out(-1, 0));
        refused("out, table", NONE, RefusalTest::withPlans, c -> c.out(0, 3));
        refused("holds", NONE, RefusalTest::withPlans, c -> c.holds(2));
        refused("count", NONE, RefusalTest::withPlans, c -> c.count(7));
    }
}
