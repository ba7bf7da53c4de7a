/** A test for each sentence with a boundary: what plans are and cost, and promises 7 to 11. */
public final class BoundsOfPlansTest {
    private static final int NONE = Questions.NONE;
    private static final int BAD = Questions.BAD;
    private static final int STATE = Questions.STATE;
    private static final int FULL = Questions.FULL;
    private static final long NO = Questions.NO;
    private static final int LOW = Questions.LOW;
    private static final int HIGH = Questions.HIGH;
    private static final int[] NO_PLANS = {-1, 3, 4, 59, 60, 64, 256, 65536, LOW, HIGH};

    public static void main(String[] args) {
        setsHaveNoTableInCommon();
        setsHaveAPairingBetween();
        codesAreOneToSevenNumbers();
        firstIsTheLesserCode();
        sizeOfLeastAndGreatest();
        sizeCountsPairingsInsideAlone();
        priceOfEachKind();
        priceIsThatOfBothAndMore();
        orderCostsAWholePlanAlone();
        inOrderByTheLeastPairing();
        inOrderByNoPairingInside();
        partsAreWhole();
        withoutAnOpenOneBIsZero();
        readOfNoTable();
        readWhenNotWhole();
        readWhenFull();
        joinOfNoPlan();
        joinOfABadKind();
        joinInTheWrongState();
        joinWhenFull();
        codeOfNone();
        aboutOfNone();
        aboutInOrder();
        priceOfNone();
        Check.end("BoundsOfPlansTest");
    }

    /** Reads of three() are plans 0 to 2. */
    private static PlanCabinet threeRead() {
        return Questions.readAll(Questions.three());
    }

    private static PlanCabinet greatestRead() {
        return Questions.readAll(Questions.greatest());
    }

    // ---- Terms

    private static void setsHaveNoTableInCommon() {
        Check.sentence("a JOIN .. of sets that have no TABLE in common");
        PlanCabinet c = greatestRead();
        c.join(0, 0, 1);
        c.join(0, 1, 2);
        c.join(0, 2, 3);
        c.join(0, 4, 2);
        Check.due("a plan with itself", STATE, c.join(0, 0, 0));
        Check.due("a whole half with itself", STATE, c.join(0, 4, 4));
        Check.due("0 1 and 1 2", STATE, c.join(0, 4, 5));
        Check.due("0 1 2 and 2 3", STATE, c.join(0, 7, 6));
        Check.due("0 1 2 and 2", STATE, c.join(0, 7, 2));
        Check.due("another READ of the same table", 8, c.read(0));
        Check.due("both READs", STATE, c.join(0, 0, 8));
        Check.due("0 1 and 2 3, nothing in common", 9, c.join(0, 4, 6));
        Check.due("0 1 2 and 3, nothing in common", 10, c.join(0, 7, 3));
    }

    private static void setsHaveAPairingBetween() {
        Check.sentence("a JOIN .. between which there is a PAIRING");
        PlanCabinet c = greatestRead();
        Check.due("0 and 2, joined by 1 alone", STATE, c.join(0, 0, 2));
        Check.due("0 and 3", STATE, c.join(0, 0, 3));
        Check.due("3 and 1", STATE, c.join(0, 3, 1));
        c.join(0, 0, 1);
        Check.due("0 1 and 3", STATE, c.join(0, 4, 3));
        Check.due("3 and 0 1", STATE, c.join(0, 3, 4));
        Check.due("0 1 and 2, by one of both", 5, c.join(0, 4, 2));
        Check.due("1 and 0, the other way round", 6, c.join(0, 1, 0));
    }

    private static void codesAreOneToSevenNumbers() {
        Check.sentence("CODE .. of READ the TABLE; of a JOIN 4 and the KIND more, then both");
        PlanCabinet c = greatestRead();
        codeIs(c, 0, 0);
        codeIs(c, 3, 3);
        c.join(0, 1, 0);
        codeIs(c, 4, 4, 1, 0);
        c.join(1, 4, 2);
        codeIs(c, 5, 5, 4, 1, 0, 2);
        c.join(2, 3, 5);
        codeIs(c, 6, 6, 3, 5, 4, 1, 0, 2);
        c.join(2, 3, 2);
        c.join(2, 7, 4);
        codeIs(c, 8, 6, 6, 3, 2, 4, 1, 0);
    }

    private static void codeIs(PlanCabinet c, int plan, int... numbers) {
        for (int i = 0; i < numbers.length; i++) {
            Check.due("code " + plan + ", " + i, numbers[i], c.code(plan, i));
        }
        Check.dueForEach("code " + plan, NONE, i -> c.code(plan, i),
            -1, numbers.length, numbers.length + 1, LOW, HIGH);
    }

    private static void firstIsTheLesserCode() {
        Check.sentence("FIRST of which the CODE has the lesser number where they first differ");
        PlanCabinet sides = Questions.tables(1, 1);
        sides.pair(0, 0, 1, 0, 1);
        sides.best(0);
        codeIs(sides, 0, 4, 0, 1);
        // 2 * 2 is 4 and NEST costs 4 * 4 as DEALT does 2 * 8: the first number decides.
        PlanCabinet kinds = Questions.tables(4, 4);
        kinds.pair(0, 0, 1, 0, 4);
        kinds.best(0);
        codeIs(kinds, 0, 4, 0, 1);
        // Below it likewise; 4 2 4 0 1 and 4 0 4 1 2 cost alike: the second number decides.
        PlanCabinet below = Questions.tables(4, 4, 4);
        below.pair(0, 0, 1, 0, 1);
        below.pair(1, 0, 2, 0, 1);
        below.best(0);
        codeIs(below, 0, 4, 0, 4, 1, 2);
        // All alike: halves, 4 4 .., come behind 4 0 .., with the lesser numbers inside.
        PlanCabinet four = Questions.tables(1, 1, 1, 1);
        four.pair(0, 0, 1, 0, 4);
        four.pair(1, 0, 2, 0, 4);
        four.pair(2, 0, 3, 0, 4);
        four.best(0);
        codeIs(four, 0, 4, 0, 4, 1, 4, 2, 3);
    }

    private static void sizeOfLeastAndGreatest() {
        Check.sentence("THE SIZE: the product of ROWS and of SHARES (as parts of one)");
        PlanCabinet least = Questions.tables(1, 1);
        for (int p = 0; p < 4; p++) {
            least.pair(0, 0, 1, 0, 1);
        }
        least.best(0);
        Check.due("four times a quarter of one: one part", 1, least.price(0, 2));
        Check.due("2 rows and NEST 1", 3 * 256, least.price(0, 0));
        PlanCabinet open = Questions.tables(1, 1);
        for (int p = 0; p < 4; p++) {
            open.pair(0, 0, 1, 0, p == 3 ? 0 : 1);
        }
        open.best(0);
        Check.due("A with an OPEN one", 0, open.price(0, 2));
        Check.due("B with an OPEN one: one part", 1, open.price(0, 3));
        PlanCabinet c = greatestRead();
        c.join(0, 0, 1);
        c.join(0, 4, 2);
        c.join(0, 5, 3);
        Check.due("of one table", 8 * 256, c.price(0, 2));
        Check.due("of two", 64 * 256, c.price(4, 2));
        Check.due("of three", 512 * 256, c.price(5, 2));
        Check.due("of four", 4096 * 256, c.price(6, 2));
    }

    private static void sizeCountsPairingsInsideAlone() {
        Check.sentence("THE SIZE .. of all PAIRINGS that are between two of them");
        PlanCabinet c = Questions.tables(4, 4, 4);
        c.pair(0, 0, 1, 0, 1);
        c.pair(0, 1, 1, 1, 2);
        c.pair(1, 0, 2, 0, 3);
        c.pair(0, 0, 2, 0, 0);
        Questions.readAll(c);
        c.join(0, 0, 1);
        c.join(0, 3, 2);
        Check.due("one table: none", 4 * 256, c.price(1, 2));
        Check.due("two tables: both of them, 16 / 4 / 2", 2 * 256, c.price(3, 2));
        Check.due("and not the OPEN one", 0, c.price(3, 3));
        Check.due("three tables: the OPEN one makes it B", 0, c.price(4, 2));
        Check.due("64 / 4 / 2 * 3 / 4 / 4", 384, c.price(4, 3));
    }

    private static void priceOfEachKind() {
        Check.sentence("THE PRICE: .. NEST the product, DEALT 2 times both, SORTED 3 times");
        PlanCabinet least = Questions.tables(1, 1);
        least.pair(0, 0, 1, 0, 1);
        Questions.readAll(least);
        PlanCabinet greatest = greatestRead();
        PlanCabinet uneven = Questions.tables(1, 8);
        uneven.pair(0, 0, 1, 0, 4);
        Questions.readAll(uneven);
        for (int kind = 0; kind < 3; kind++) {
            for (PlanCabinet c : new PlanCabinet[] {least, greatest, uneven}) {
                c.join(kind, 0, 1);
                c.join(kind, 1, 0);
            }
        }
        int[] ofOneAndOne = {2 + 1, 2 + 4, 2 + 6};
        int[] ofEightAndEight = {16 + 64, 16 + 32, 16 + 48};
        int[] ofOneAndEight = {9 + 8, 9 + 18, 9 + 27};
        for (int i = 0; i < 6; i++) {
            Check.due("1 and 1", ofOneAndOne[i / 2] * 256, least.price(2 + i, 0));
            Check.due("8 and 8", ofEightAndEight[i / 2] * 256, greatest.price(4 + i, 0));
            Check.due("1 and 8", ofOneAndEight[i / 2] * 256, uneven.price(2 + i, 0));
        }
    }

    private static void priceIsThatOfBothAndMore() {
        Check.sentence("THE PRICE: .. of a JOIN those of both, and ..");
        PlanCabinet c = Questions.tables(4, 4, 4, 4);
        c.pair(0, 0, 1, 0, 0);
        c.pair(1, 0, 2, 0, 1);
        c.pair(2, 0, 3, 0, 1);
        Questions.readAll(c);
        c.join(0, 0, 1);
        c.join(0, 4, 2);
        // 12 and 16 and 4x * 4; of three tables 4x combinations.
        Check.due("three tables, A", 28 * 256, c.price(5, 0));
        Check.due("three tables, B", 16 * 256, c.price(5, 1));
        c.join(0, 5, 3);
        c.join(0, 3, 5);
        for (int plan = 6; plan < 8; plan++) {
            Check.due("what has x left or right, A", 32 * 256, c.price(plan, 0));
            Check.due("what has x left or right, B", 32 * 256, c.price(plan, 1));
        }
    }

    private static void orderCostsAWholePlanAlone() {
        Check.sentence("A whole PLAN has at its end, if there is an ORDER, 3 times its SIZE more");
        PlanCabinet c = Questions.greatest();
        c.order(3, 0);
        Questions.readAll(c);
        c.join(0, 0, 1);
        c.join(0, 4, 2);
        c.join(0, 5, 3);
        Check.due("READ of the order's table", 8 * 256, c.price(3, 0));
        Check.due("two of four", (16 + 64) * 256, c.price(4, 0));
        Check.due("three of four", (24 + 64 + 512) * 256, c.price(5, 0));
        Check.due("all", (32 + 64 + 512 + 4096 + 3 * 4096) * 256, c.price(6, 0));
        PlanCabinet one = Questions.tables(1);
        one.order(0, 0);
        one.read(0);
        Check.due("one table is all: 1 and 3", 4 * 256, one.price(0, 0));
        Check.due("its size has no order", 256, one.price(0, 2));
        PlanCabinet open = Questions.two();
        open.order(0, 1);
        open.best(0);
        Check.due("with an OPEN one, A", 11 * 256, open.price(0, 0));
        Check.due("and B: 3 times 6x / 4", 3 * 384, open.price(0, 1));
    }

    private static void inOrderByTheLeastPairing() {
        Check.sentence("IN ORDER: a SORTED one of which the least PAIRING between both has it");
        // Two pairings between 0 and 1: the order's column of each side, of the least and the next.
        int[][] orders = {{0, 0, 1}, {1, 1, 1}, {0, 2, 0}, {1, 2, 0}, {0, 1, 0}, {1, 0, 0}};
        for (int[] order : orders) {
            PlanCabinet c = Questions.tables(2, 2);
            c.pair(0, 0, 1, 1, 4);
            c.pair(0, 2, 1, 2, 4);
            c.order(order[0], order[1]);
            Questions.readAll(c);
            for (int kind = 0; kind < 3; kind++) {
                c.join(kind, 0, 1);
            }
            c.join(2, 1, 0);
            String what = "order " + order[0] + ", " + order[1];
            int[] own = {4, 8, 12, 12};
            for (int i = 0; i < 4; i++) {
                int in = i >= 2 ? order[2] : 0;
                Check.due(what, in, c.about(2 + i, 2));
                Check.due(what, (4 + own[i] + (in == 1 ? 0 : 12)) * 256, c.price(2 + i, 0));
            }
        }
    }

    private static void inOrderByNoPairingInside() {
        Check.sentence("IN ORDER: .. the least PAIRING between both (lesser ones are inside a part)");
        // 0 - 1 is the least one, 1 - 2 the next: between 0 1 and 2 the next one is the least.
        for (int inside = 0; inside < 2; inside++) {
            PlanCabinet c = Questions.tables(2, 2, 2);
            c.pair(0, 0, 1, 0, 4);
            c.pair(1, 1, 2, 1, 4);
            c.order(inside == 1 ? 0 : 2, inside == 1 ? 0 : 1);
            Questions.readAll(c);
            int part = c.join(2, 0, 1);
            int[] plans = {c.join(2, part, 2), c.join(2, 2, part), c.join(2, 1, 2), c.join(2, 2, 1)};
            Check.due("0 with 1", inside, c.about(part, 2));
            for (int plan : plans) {
                Check.due("code " + c.code(plan, 1), 1 - inside, c.about(plan, 2));
            }
            // 6 rows, SORTED of 2 and 2 and of 4 and 2, and 3 times 8 if the order is made.
            Check.due("0 1 with 2", (6 + 12 + 18 + 24 * inside) * 256, c.price(plans[0], 0));
            Check.due("2 with 0 1", (6 + 12 + 18 + 24 * inside) * 256, c.price(plans[1], 0));
        }
    }

    private static void partsAreWhole() {
        Check.sentence("PRICES are told in parts of 256: A and B, whole numbers");
        PlanCabinet c = Questions.tables(3, 1, 1);
        c.pair(0, 0, 1, 0, 1);
        c.pair(0, 0, 1, 0, 3);
        c.pair(1, 0, 2, 0, 1);
        c.pair(0, 0, 2, 0, 0);
        c.order(0, 1);
        Questions.readAll(c);
        c.join(0, 0, 1);
        Check.due("9 sixteenths", 144, c.price(3, 2));
        c.join(0, 3, 2);
        // 5 and 3 and 9 / 16; at its end 3 times 9x / 256.
        Check.due("A", 8 * 256 + 144, c.price(4, 0));
        Check.due("B", 27, c.price(4, 1));
        Check.due("B of the size", 9, c.price(4, 3));
    }

    private static void withoutAnOpenOneBIsZero() {
        Check.sentence("without an OPEN one B is 0");
        PlanCabinet c = Questions.greatest();
        c.order(0, 0);
        c.best(7);
        Check.due("price", 0, c.price(0, 1));
        Check.due("size", 0, c.price(0, 3));
        PlanCabinet open = Questions.three();
        Questions.readAll(open);
        open.join(0, 1, 2);
        Check.due("an OPEN one outside", 0, open.price(3, 1));
        Check.due("size, an OPEN one outside", 0, open.price(3, 3));
    }

    // ---- Promises 7 and 8

    private static void readOfNoTable() {
        Check.sentence("7: NONE");
        PlanCabinet c = new PlanCabinet();
        Check.dueForEach("no table", NONE, c::read, 0, 1, -1, LOW, HIGH);
        c.table();
        c.table();
        int[] none = {-1, 2, 3, 4, 32, 33, 256, 65536, LOW, HIGH};
        Check.dueForEach("not WHOLE, table", NONE, c::read, none);
        PlanCabinet two = Questions.two();
        Check.dueForEach("table", NONE, two::read, none);
        Check.due("the least", 0, two.read(0));
        Check.due("the greatest", 1, two.read(1));
        Questions.fillPlans(two);
        Check.dueForEach("full, table", NONE, two::read, none);
    }

    private static void readWhenNotWhole() {
        Check.sentence("7: STATE: not WHOLE");
        PlanCabinet c = Questions.tables(1, 0);
        Check.due("no pairing, no row", STATE, c.read(0));
        c.pair(0, 0, 1, 0, 1);
        Check.due("no row of the other table", STATE, c.read(0));
        Check.due("no row of this table", STATE, c.read(1));
        c.row(1, 0, 0, 0);
        Check.due("WHOLE", 0, c.read(0));
        Check.due("not joined", STATE, Questions.tables(1, 1).read(1));
    }

    private static void readWhenFull() {
        Check.sentence("7: its number, from 0 on .. FULL: there are 60");
        PlanCabinet c = Questions.two();
        for (int i = 0; i < 60; i++) {
            Check.due("a plan more", i, c.read(i % 2));
        }
        Check.due("a 61st", FULL, c.read(0));
        Check.due("a 61st of the other table", FULL, c.read(1));
        Check.due("how many", 60, c.count(3));
        Check.due("the last one", 1, c.code(59, 0));
        Check.due("none behind it", NONE, c.code(60, 0));
        c.clear();
        Check.due("room again", 0, c.read(1));
    }

    private static void joinOfNoPlan() {
        Check.sentence("8: NONE");
        PlanCabinet c = Questions.three();
        Check.dueForEach("no plan at all", NONE, p -> c.join(0, p, p), 0, 1, -1, LOW, HIGH);
        Questions.readAll(c);
        Check.dueForEach("left", NONE, p -> c.join(0, p, 1), NO_PLANS);
        Check.dueForEach("right", NONE, p -> c.join(0, 1, p), NO_PLANS);
        Check.dueForEach("left, and kind", NONE, p -> c.join(3, p, 1), NO_PLANS);
        Check.dueForEach("right, and kind", NONE, p -> c.join(-1, 1, p), NO_PLANS);
        Check.due("the least and the greatest", 3, c.join(0, 2, 1));
        Questions.fillPlans(c);
        Check.due("full, left", NONE, c.join(0, 60, 1));
        Check.due("full, right", NONE, c.join(0, 1, -1));
        c.clear();
        Check.due("gone", NONE, c.join(0, 0, 1));
    }

    private static void joinOfABadKind() {
        Check.sentence("8: BAD: kind");
        PlanCabinet c = threeRead();
        int[] bad = {-1, 3, 4, 5, 6, 256, 65536, LOW, HIGH};
        Check.dueForEach("kind", BAD, kind -> c.join(kind, 0, 1), bad);
        Check.dueForEach("kind, and a table in both", BAD, kind -> c.join(kind, 0, 0), bad);
        Check.dueForEach("kind, and no pairing", BAD, kind -> c.join(kind, 0, 2), bad);
        Check.due("no plan came", 3, c.count(3));
        Check.due("the least", 3, c.join(0, 0, 1));
        Check.due("the greatest", 4, c.join(2, 0, 1));
        Questions.fillPlans(c);
        Check.dueForEach("full, kind", BAD, kind -> c.join(kind, 0, 1), bad);
    }

    private static void joinInTheWrongState() {
        Check.sentence("8: STATE: a TABLE is in both, or no PAIRING is between");
        PlanCabinet c = threeRead();
        for (int kind = 0; kind < 3; kind++) {
            Check.due("a table in both", STATE, c.join(kind, 1, 1));
            Check.due("no pairing between", STATE, c.join(kind, 2, 0));
        }
        Check.due("no plan came", 3, c.count(3));
        Questions.fillPlans(c);
        Check.due("full, a table in both", STATE, c.join(0, 1, 1));
        Check.due("full, no pairing between", STATE, c.join(0, 0, 2));
    }

    private static void joinWhenFull() {
        Check.sentence("8: FULL");
        PlanCabinet c = threeRead();
        for (int i = 3; i < 60; i++) {
            Check.due("a plan more", i, c.join(i % 3, 0, 1));
        }
        Check.due("a 61st", FULL, c.join(0, 0, 1));
        Check.due("a whole one", FULL, c.join(0, 59, 2));
        Check.due("how many", 60, c.count(3));
        codeIs(c, 59, 6, 0, 1);
    }

    // ---- Promises 9 to 11

    private static void codeOfNone() {
        Check.sentence("9: NONE");
        PlanCabinet c = Questions.three();
        Check.due("no plan at all", NONE, c.code(0, 0));
        Questions.readAll(c);
        Check.dueForEach("plan", NONE, p -> c.code(p, 0), NO_PLANS);
        Check.dueForEach("plan, and number", NONE, p -> c.code(p, -1), NO_PLANS);
        Check.dueForEach("number of a READ", NONE, i -> c.code(2, i), -1, 1, 2, LOW, HIGH);
        c.join(0, 0, 1);
        Check.dueForEach("number of a JOIN", NONE, i -> c.code(3, i), -1, 3, 32, LOW, HIGH);
        c.clear();
        Check.due("gone", NONE, c.code(3, 0));
    }

    private static void aboutOfNone() {
        Check.sentence("10: NONE");
        PlanCabinet c = Questions.three();
        Check.due("no plan at all", NONE, c.about(0, 0));
        Questions.readAll(c);
        for (int what = 0; what < 4; what++) {
            int number = what;
            Check.dueForEach("plan", NONE, p -> c.about(p, number), NO_PLANS);
        }
        Check.dueForEach("what", NONE, what -> c.about(2, what), -1, 4, 5, 256, LOW, HIGH);
        Check.due("the least", 4, c.about(2, 0));
        Check.due("the greatest", 0, c.about(2, 3));
        PlanCabinet four = greatestRead();
        four.join(0, 0, 1);
        four.join(0, 4, 2);
        four.join(0, 5, 3);
        Check.due("all tables", 15, four.about(6, 0));
        Check.due("the most joins", 3, four.about(6, 1));
        Check.due("none", 0, four.about(3, 1));
        Check.due("a whole one", 1, four.about(6, 3));
        Check.due("three of four are not", 0, four.about(5, 3));
    }

    private static void aboutInOrder() {
        Check.sentence("10: IN ORDER (of a SORTED one, a whole one or not; 0: no ORDER, too)");
        PlanCabinet c = Questions.greatest();
        c.order(1, 2);
        Questions.readAll(c);
        c.join(2, 0, 1);
        c.join(2, 4, 2);
        c.join(2, 5, 3);
        c.join(2, 2, 3);
        c.join(1, 0, 1);
        c.join(0, 0, 1);
        c.join(2, 4, 7);
        Check.due("a READ of the order's table", 0, c.about(1, 2));
        Check.due("two tables", 1, c.about(4, 2));
        Check.due("three tables, by pairing 1", 1, c.about(5, 2));
        Check.due("all, by pairing 2, which has it not", 0, c.about(6, 2));
        Check.due("without the order's table", 0, c.about(7, 2));
        Check.due("DEALT", 0, c.about(8, 2));
        Check.due("NEST", 0, c.about(9, 2));
        Check.due("all, by pairing 1", 1, c.about(10, 2));
        PlanCabinet none = greatestRead();
        none.join(2, 0, 1);
        Check.due("no ORDER", 0, none.about(4, 2));
        PlanCabinet one = Questions.tables(2);
        one.order(0, 0);
        one.read(0);
        one.best(0);
        one.keen(0);
        Check.dueForEach("a READ is no SORTED one", 0, plan -> one.about(plan, 2), 0, 1, 2);
    }

    private static void priceOfNone() {
        Check.sentence("11: NO");
        PlanCabinet c = Questions.three();
        Check.due("no plan at all", NO, c.price(0, 0));
        Questions.readAll(c);
        for (int what = 0; what < 4; what++) {
            int number = what;
            Check.dueForEach("plan", NO, p -> c.price(p, number), NO_PLANS);
        }
        Check.dueForEach("what", NO, what -> c.price(2, what), -1, 4, 5, 256, LOW, HIGH);
        Check.due("the least", 4 * 256, c.price(2, 0));
        Check.due("the greatest", 0, c.price(2, 3));
        c.clear();
        Check.due("gone", NO, c.price(0, 0));
    }
}
