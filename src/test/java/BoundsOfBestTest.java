import java.lang.reflect.Constructor;
import java.lang.reflect.Field;
import java.lang.reflect.Method;

/** A test for each sentence with a boundary: the best, spans and regrets, and promises 12 to 19. */
public final class BoundsOfBestTest {
    private static final int NONE = Questions.NONE;
    private static final int BAD = Questions.BAD;
    private static final int STATE = Questions.STATE;
    private static final int FULL = Questions.FULL;
    private static final long NO = Questions.NO;
    private static final int LOW = Questions.LOW;
    private static final int HIGH = Questions.HIGH;
    private static final int[] NO_POINTS = {-1, 33, 34, 64, 256, 65536, LOW, HIGH};
    private static final int[] BAD_HUNDREDTHS = {-1, 10001, 10002, 65536, LOW, HIGH};

    public static void main(String[] args) throws ReflectiveOperationException {
        pointsAreZeroToThirtyTwo();
        bestOfSeveralIsTheFirst();
        spansHaveNumbersBetween();
        spansBetweenOthersHaveNumbersBetween();
        spansAreOfOtherPlansThanBefore();
        spansGoFromZeroToFour();
        bordersHaveNoCommonDivisor();
        withoutAnOpenOneThereIsOneSpan();
        keenOfSeveralIsTheFirst();
        regretIsOneAndDAtMost();
        worstOfSeveralIsTheLeast();
        blindOfSeveralIsTheFirst();
        coverHasTheFewestPlans();
        coverOfSeveralComesFirst();
        bestOfNoPoint();
        bestWhenNotWhole();
        bestWhenFull();
        spansWhenNotWhole();
        borderOfNone();
        keenOfNoSpan();
        keenWhenNotWhole();
        keenWhenFull();
        nearOfNone();
        nearOfBadHundredths();
        nearOfNoWholePlan();
        worstOfNone();
        worstOfNoWholePlan();
        blindWhenNotWhole();
        coverOfBadHundredths();
        coverWhenNotWhole();
        coverOfMoreThanSixteenSpans();
        Check.end("BoundsOfBestTest");
    }

    private static void codeIs(PlanCabinet c, int plan, int... numbers) {
        for (int i = 0; i < numbers.length; i++) {
            Check.due("code " + plan + ", " + i, numbers[i], c.code(plan, i));
        }
        Check.due("its end", NONE, c.code(plan, numbers.length));
    }

    private static void borderIs(PlanCabinet c, int i, int from, int below, int to, int toBelow) {
        Check.due("span " + i + " begins, above", from, c.border(i, 0));
        Check.due("span " + i + " begins, below", below, c.border(i, 1));
        Check.due("span " + i + " ends, above", to, c.border(i, 2));
        Check.due("span " + i + " ends, below", toBelow, c.border(i, 3));
    }

    private static PlanCabinet[] notWhole() {
        PlanCabinet noRow = Questions.tables(1, 0);
        noRow.pair(0, 0, 1, 0, 0);
        PlanCabinet later = Questions.three();
        later.spans();
        later.table();
        return new PlanCabinet[] {
            new PlanCabinet(), Questions.tables(0), noRow, Questions.tables(1, 1), later};
    }

    // ---- Terms

    private static void pointsAreZeroToThirtyTwo() {
        Check.sentence("A POINT is a number k from 0 to 32: x is k / 8");
        PlanCabinet c = Questions.three();
        for (int point = 0; point <= 32; point++) {
            Check.due("point " + point, point, c.best(point));
            // 28 + 16x is the least one before 1, and 44 behind it, where both are alike too.
            codeIs(c, point, 4, point < 8 ? 2 : 0, 4, point < 8 ? 0 : 1, point < 8 ? 1 : 2);
        }
        Check.dueForEach("point", NONE, c::best, NO_POINTS);
        Check.due("no plan came", 33, c.count(3));
        Check.due("near, the least point", 1, c.near(0, 0, 0));
        Check.due("near, the greatest point", 1, c.near(32, 32, 0));
        Check.due("near, 92 / 44 at 4", 0, c.near(0, 32, 109));
        Check.due("near, 92 / 44 at 4", 1, c.near(0, 32, 110));
    }

    private static void bestOfSeveralIsTheFirst() {
        Check.sentence("THE BEST .. of several the FIRST one");
        PlanCabinet start = Questions.tables(1, 2, 4);
        start.pair(0, 0, 2, 0, 0);
        start.pair(0, 0, 1, 0, 1);
        // 11 + 2x and 11: alike at 0 alone.
        start.best(0);
        codeIs(start, 0, 4, 1, 4, 0, 2);
        start.best(1);
        codeIs(start, 1, 4, 2, 4, 0, 1);
        PlanCabinet end = Questions.tables(2, 4, 8);
        end.pair(0, 0, 1, 0, 0);
        end.pair(1, 0, 2, 0, 1);
        // 38 + 4x and 54: alike at 4 alone.
        end.best(32);
        codeIs(end, 0, 4, 0, 5, 1, 2);
        end.best(31);
        codeIs(end, 1, 5, 2, 4, 0, 1);
    }

    private static void spansHaveNumbersBetween() {
        Check.sentence("a whole PLAN has the least PRICE of all at all numbers between");
        PlanCabinet start = Questions.tables(1, 2, 4);
        start.pair(0, 0, 2, 0, 0);
        start.pair(0, 0, 1, 0, 1);
        Check.due("what is least at 0 alone has no span", 1, start.spans());
        borderIs(start, 0, 0, 1, 4, 1);
        PlanCabinet end = Questions.tables(2, 4, 8);
        end.pair(0, 0, 1, 0, 0);
        end.pair(1, 0, 2, 0, 1);
        Check.due("what is least at 4 alone has no span", 2, end.spans());
        borderIs(end, 1, 4, 3, 4, 1);
        // 18 + 8x, 26 + 4x and 34: all three are alike at 2, and the second one is nowhere less.
        PlanCabinet middle = Questions.tables(2, 4, 4);
        middle.pair(0, 0, 1, 0, 0);
        middle.pair(1, 0, 2, 0, 1);
        Check.due("what is least at a border alone has no span", 2, middle.spans());
        borderIs(middle, 0, 0, 1, 2, 1);
        borderIs(middle, 1, 2, 1, 4, 1);
        middle.best(16);
        codeIs(middle, 0, 4, 0, 4, 1, 2);
    }

    private static void spansBetweenOthersHaveNumbersBetween() {
        Check.sentence("a whole PLAN has the least PRICE .. at all numbers between (inner ones)");
        // 18 + 15x, 24 + 12x, 32 + 9x and 42 + 6x; at 8/3, where the second and the third one
        // meet, 26 + 11.25x is 56, too. All of these are below where the first and the last meet.
        PlanCabinet c = Questions.tables(4, 3, 3, 2);
        c.pair(0, 0, 1, 0, 2);
        c.pair(1, 0, 2, 0, 3);
        c.pair(1, 0, 3, 0, 0);
        Check.due("what is least at an inner border alone has no span", 4, c.spans());
        borderIs(c, 0, 0, 1, 2, 1);
        borderIs(c, 1, 2, 1, 8, 3);
        borderIs(c, 2, 8, 3, 10, 3);
        borderIs(c, 3, 10, 3, 4, 1);
        int[] constants = {18, 24, 32, 42};
        int[] slopes = {15, 12, 9, 6};
        for (int i = 0; i < 4; i++) {
            int plan = c.keen(i);
            Check.due("a of " + i, 256 * constants[i], c.price(plan, 0));
            Check.due("b of " + i, 256 * slopes[i], c.price(plan, 1));
        }
    }

    private static void spansAreOfOtherPlansThanBefore() {
        Check.sentence("that is another one than in the SPAN before");
        // NEST and DEALT cost alike in three(): they do not make spans of their own.
        Check.due("two lines of many plans", 2, Questions.three().spans());
        PlanCabinet c = Questions.threeSpans();
        for (int i = 0; i < 3; i++) {
            c.keen(i);
        }
        Check.due("21 + 14x", 21 * 256, c.price(0, 0));
        Check.due("21 + 14x", 14 * 256, c.price(0, 1));
        Check.due("35 + 4x", 35 * 256, c.price(1, 0));
        Check.due("35 + 4x", 4 * 256, c.price(1, 1));
        Check.due("49", 49 * 256, c.price(2, 0));
        Check.due("49", 0, c.price(2, 1));
    }

    private static void spansGoFromZeroToFour() {
        Check.sentence("SPANS are of x from 0 to 4");
        PlanCabinet[] all = {Questions.tables(1), Questions.two(), Questions.three(),
            Questions.wide(), Questions.threeSpans(), Questions.threeInOrder(), mostSpans()};
        int[] spans = {1, 1, 2, 2, 3, 2, 8};
        for (int k = 0; k < all.length; k++) {
            PlanCabinet c = all[k];
            int last = spans[k] - 1;
            Check.due("spans", spans[k], c.spans());
            Check.due("the first begins at 0", 0, c.border(0, 0));
            Check.due("0 / 1", 1, c.border(0, 1));
            Check.due("the last ends at 4", 4, c.border(last, 2));
            Check.due("4 / 1", 1, c.border(last, 3));
            for (int i = 1; i <= last; i++) {
                Check.due("begins where one ends", c.border(i - 1, 2), c.border(i, 0));
                Check.due("begins where one ends", c.border(i - 1, 3), c.border(i, 1));
                Check.holds("a later border", c.border(i, 0) * c.border(i - 1, 1)
                    > c.border(i - 1, 0) * c.border(i, 1));
            }
        }
    }

    /** Eight: a search of all questions found none with more. */
    private static PlanCabinet mostSpans() {
        PlanCabinet c = Questions.tables(3, 3, 7, 8);
        c.pair(0, 1, 1, 0, 0);
        c.pair(1, 0, 2, 1, 2);
        c.pair(1, 0, 3, 1, 2);
        c.pair(2, 1, 3, 1, 1);
        c.order(1, 0);
        return c;
    }

    private static void bordersHaveNoCommonDivisor() {
        Check.sentence("a BORDER is told as a fraction without a common divisor");
        // (32 - 16) / (8 - 2), (35 - 21) / (14 - 4), (49 - 35) / 4, (52 - 28) / 28.
        borderIs(Questions.wide(), 0, 0, 1, 8, 3);
        borderIs(Questions.threeSpans(), 1, 7, 5, 7, 2);
        borderIs(Questions.threeInOrder(), 0, 0, 1, 6, 7);
        // 44 - 28 by 16 is 1 / 1.
        borderIs(Questions.three(), 0, 0, 1, 1, 1);
    }

    private static void withoutAnOpenOneThereIsOneSpan() {
        Check.sentence("Without an OPEN one there is one SPAN");
        PlanCabinet c = Questions.greatest();
        c.order(2, 1);
        Check.due("four tables", 1, c.spans());
        borderIs(c, 0, 0, 1, 4, 1);
        Check.due("span 1", NO, c.border(1, 0));
        Check.due("keen 1", NONE, c.keen(1));
        Check.due("blind", 0, c.blind());
        Check.due("cover", 1, c.cover(0));
        c.keen(0);
        c.best(0);
        c.best(32);
        for (int i = 0; i < 7; i++) {
            Check.due("the best everywhere", c.code(0, i), c.code(1, i));
            Check.due("the best everywhere", c.code(0, i), c.code(2, i));
        }
    }

    private static void keenOfSeveralIsTheFirst() {
        Check.sentence("of several that have it at all these the FIRST one");
        PlanCabinet c = Questions.three();
        // 2 with 0 1, 0 1 with 2, 1 0 with 2 ..: NEST and DEALT of 4 and 4 cost alike below.
        c.keen(0);
        codeIs(c, 0, 4, 2, 4, 0, 1);
        c.keen(1);
        codeIs(c, 1, 4, 0, 4, 1, 2);
        // At the start 4 1 4 0 2 would be FIRST, but it is least at 0 alone.
        PlanCabinet start = Questions.tables(1, 2, 4);
        start.pair(0, 0, 2, 0, 0);
        start.pair(0, 0, 1, 0, 1);
        start.keen(0);
        codeIs(start, 0, 4, 2, 4, 0, 1);
    }

    private static void regretIsOneAndDAtMost() {
        Check.sentence("a REGRET of 1 and d hundredths at most");
        PlanCabinet c = Questions.wide();
        c.keen(0);
        c.keen(1);
        // 48 / 40 at 4 is 1 and 20 hundredths, 32 / 16 at 0 is 1 and 100.
        Check.due("19", 0, c.near(0, 32, 19));
        Check.due("20, exactly", 1, c.near(0, 32, 20));
        Check.due("21", 1, c.near(0, 32, 21));
        Check.due("99", 0, c.near(1, 0, 99));
        Check.due("100, exactly", 1, c.near(1, 0, 100));
        Check.due("a regret of 1", 1, c.near(0, 0, 0));
        Check.due("cover 19", 3, c.cover(19));
        Check.due("cover 20, exactly", 1, c.cover(20));
        PlanCabinet third = Questions.tables(4, 4);
        third.pair(0, 0, 1, 0, 4);
        Questions.readAll(third);
        third.join(2, 0, 1);
        // 32 / 24 is 1 and a third everywhere.
        Check.due("33", 0, third.near(2, 0, 33));
        Check.due("34", 1, third.near(2, 0, 34));
        Check.due("33 at the end", 0, third.near(2, 32, 33));
        Check.due("34 at the end", 1, third.near(2, 32, 34));
    }

    private static void worstOfSeveralIsTheLeast() {
        Check.sentence("WORST POINT: .. of several the least one");
        PlanCabinet c = Questions.worstAlike();
        c.keen(1);
        // 42 / 36 at 0 and 98 / 84 at 4.
        Check.due("alike at both ends", 0, c.worst(0));
        Check.due("16 hundredths at 0", 0, c.near(0, 0, 16));
        Check.due("16 hundredths at 4", 0, c.near(0, 32, 16));
        Check.due("17 hundredths at 0", 1, c.near(0, 0, 17));
        Check.due("17 hundredths at 4", 1, c.near(0, 32, 17));
        Check.due("16 hundredths beside 0", 1, c.near(0, 1, 16));
        PlanCabinet flat = Questions.tables(4, 4);
        flat.pair(0, 0, 1, 0, 4);
        Questions.readAll(flat);
        flat.join(0, 0, 1);
        flat.join(2, 0, 1);
        Check.due("1 everywhere", 0, flat.worst(2));
        Check.due("1 and a third everywhere", 0, flat.worst(3));
        PlanCabinet end = Questions.wide();
        end.keen(0);
        Check.due("the greatest point", 32, end.worst(0));
    }

    private static void blindOfSeveralIsTheFirst() {
        Check.sentence("BLIND: .. of several the first one");
        Check.due("81 / 63 and 27 / 21", 0, Questions.blindAlike().blind());
        Check.due("434 / 90, 162 / 90, 90 / 50", 1, Questions.blindAlikeBehind().blind());
    }

    private static void coverHasTheFewestPlans() {
        Check.sentence("THE COVER: of such sets with the fewest PLANS");
        PlanCabinet c = Questions.threeSpans();
        // At 4 the second one has 51 / 49 and the first one 77 / 49.
        Check.due("all", 7, c.cover(0));
        Check.due("all", 7, c.cover(4));
        Check.due("two", 3, c.cover(5));
        Check.due("two", 3, c.cover(57));
        Check.due("one", 1, c.cover(58));
        Check.due("one", 1, c.cover(10000));
        Check.due("one span", 1, Questions.two().cover(0));
    }

    private static void coverOfSeveralComesFirst() {
        Check.sentence("THE COVER: .. that of which the PLANS come first");
        Check.due("the second one alone", 2, Questions.three().cover(58));
        Check.due("the first one from 110 on", 2, Questions.three().cover(109));
        Check.due("each is enough", 1, Questions.three().cover(110));
        Check.due("27 / 21 and 81 / 63", 1, Questions.blindAlike().cover(29));
        Check.due("28 is not enough", 3, Questions.blindAlike().cover(28));
        // From 1 and 80 hundredths on the last two are enough alone, from 383 on the first one.
        Check.due("the first of the last two", 2, Questions.blindAlikeBehind().cover(80));
        Check.due("the first of the last two", 2, Questions.blindAlikeBehind().cover(382));
        Check.due("the first of all", 1, Questions.blindAlikeBehind().cover(383));
    }

    // ---- Promises 12 to 15

    private static void bestOfNoPoint() {
        Check.sentence("12: NONE");
        for (PlanCabinet c : notWhole()) {
            Check.dueForEach("not WHOLE, point", NONE, c::best, NO_POINTS);
        }
        PlanCabinet c = Questions.two();
        Check.dueForEach("point", NONE, c::best, NO_POINTS);
        Check.due("no plan came", 0, c.count(3));
        Questions.fillPlans(c);
        Check.dueForEach("full, point", NONE, c::best, NO_POINTS);
    }

    private static void bestWhenNotWhole() {
        Check.sentence("12: STATE");
        for (PlanCabinet c : notWhole()) {
            Check.dueForEach("point", STATE, c::best, 0, 1, 31, 32);
            Check.due("no plan came", 0, c.count(3));
        }
    }

    private static void bestWhenFull() {
        Check.sentence("12: THE BEST is one PLAN more .. FULL");
        PlanCabinet c = Questions.two();
        for (int i = 0; i < 60; i++) {
            Check.due("a plan more", i, c.best(i % 33));
        }
        Check.due("a 61st", FULL, c.best(0));
        Check.due("a 61st", FULL, c.best(32));
        codeIs(c, 59, 4, 0, 1);
        Check.due("how many", 60, c.clear());
        Check.due("room again", 0, c.best(0));
    }

    private static void spansWhenNotWhole() {
        Check.sentence("13: STATE");
        for (PlanCabinet c : notWhole()) {
            Check.due("not WHOLE", STATE, c.spans());
        }
        PlanCabinet c = Questions.three();
        Questions.fillPlans(c);
        Check.due("spans are told with 60 plans too", 2, c.spans());
        Check.due("they are no plans", 60, c.count(3));
    }

    private static void borderOfNone() {
        Check.sentence("14: NO: none such, STATE");
        for (PlanCabinet c : notWhole()) {
            Check.dueForEach("not WHOLE, what", NO, what -> c.border(0, what), 0, 1, 2, 3, 4, -1);
        }
        PlanCabinet c = Questions.threeSpans();
        for (int what = 0; what < 4; what++) {
            int number = what;
            Check.dueForEach("span", NO, i -> c.border(i, number), -1, 3, 4, 256, LOW, HIGH);
        }
        for (int i = 0; i < 3; i++) {
            int span = i;
            Check.dueForEach("what", NO, what -> c.border(span, what), -1, 4, 256, LOW, HIGH);
        }
        Check.due("the least", 0, c.border(0, 0));
        Check.due("the greatest", 1, c.border(2, 3));
        Questions.fillPlans(c);
        Check.due("with 60 plans", 7, c.border(2, 0));
    }

    private static void keenOfNoSpan() {
        Check.sentence("15: NONE");
        PlanCabinet c = Questions.threeSpans();
        int[] none = {-1, 3, 4, 119, 120, 256, LOW, HIGH};
        Check.dueForEach("span", NONE, c::keen, none);
        Check.due("no plan came", 0, c.count(3));
        Check.due("the greatest", 0, c.keen(2));
        Check.due("the least", 1, c.keen(0));
        Questions.fillPlans(c);
        Check.dueForEach("full, span", NONE, c::keen, none);
    }

    private static void keenWhenNotWhole() {
        Check.sentence("15: STATE");
        for (PlanCabinet c : notWhole()) {
            Check.due("span 0", STATE, c.keen(0));
            // No question has a span of a number below 0.
            Check.dueForEach("span", NONE, c::keen, -1, LOW);
            Check.due("no plan came", 0, c.count(3));
        }
    }

    private static void keenWhenFull() {
        Check.sentence("15: one PLAN more .. FULL");
        PlanCabinet c = Questions.threeSpans();
        for (int i = 0; i < 60; i++) {
            Check.due("a plan more", i, c.keen(i % 3));
        }
        Check.dueForEach("a 61st of span", FULL, c::keen, 0, 1, 2);
        codeIs(c, 59, 4, 0, 5, 1, 2);
        Check.due("how many", 60, c.count(3));
    }

    // ---- Promises 16 to 19

    /** Plans 0 and 1 are whole ones, 2 is a READ and 4 a JOIN of two tables of three. */
    private static PlanCabinet wholeAndNot() {
        PlanCabinet c = Questions.three();
        c.keen(0);
        c.keen(1);
        c.read(0);
        c.read(1);
        c.join(0, 2, 3);
        return c;
    }

    private static void nearOfNone() {
        Check.sentence("16: NONE");
        Check.due("a new object", NONE, new PlanCabinet().near(0, 0, 0));
        PlanCabinet c = wholeAndNot();
        int[] plans = {-1, 5, 6, 60, 256, LOW, HIGH};
        Check.dueForEach("plan", NONE, p -> c.near(p, 0, 0), plans);
        Check.dueForEach("plan, and point", NONE, p -> c.near(p, 33, 0), plans);
        Check.dueForEach("plan, and d", NONE, p -> c.near(p, 0, -1), plans);
        Check.dueForEach("point", NONE, k -> c.near(0, k, 0), NO_POINTS);
        Check.dueForEach("point, and d", NONE, k -> c.near(0, k, 10001), NO_POINTS);
        Check.dueForEach("point, not a whole one", NONE, k -> c.near(2, k, 0), NO_POINTS);
    }

    private static void nearOfBadHundredths() {
        Check.sentence("16: BAD: d not 0 .. 10000");
        PlanCabinet c = wholeAndNot();
        Check.dueForEach("d", BAD, d -> c.near(0, 0, d), BAD_HUNDREDTHS);
        Check.dueForEach("d, not a whole one", BAD, d -> c.near(4, 32, d), BAD_HUNDREDTHS);
        Check.due("the least, a regret of 1", 1, c.near(0, 0, 0));
        Check.due("the least, more than 1", 0, c.near(1, 0, 0));
        Check.due("the greatest", 1, c.near(1, 0, 10000));
        Check.due("one below it", 1, c.near(0, 32, 9999));
    }

    private static void nearOfNoWholePlan() {
        Check.sentence("16: STATE");
        PlanCabinet c = wholeAndNot();
        for (int point = 0; point <= 32; point += 32) {
            Check.due("a READ", STATE, c.near(2, point, 0));
            Check.due("a JOIN of two of three", STATE, c.near(4, point, 10000));
        }
        PlanCabinet one = Questions.tables(1);
        one.read(0);
        Check.due("a READ of the one table", 1, one.near(0, 0, 0));
    }

    private static void worstOfNone() {
        Check.sentence("17: NONE");
        PlanCabinet none = new PlanCabinet();
        Check.dueForEach("a new object", NONE, none::worst, 0, -1, LOW, HIGH);
        PlanCabinet c = wholeAndNot();
        Check.dueForEach("plan", NONE, c::worst, -1, 5, 6, 60, 256, LOW, HIGH);
        Check.due("the least", 32, c.worst(0));
        Check.due("the next", 0, c.worst(1));
        c.clear();
        Check.due("gone", NONE, c.worst(0));
    }

    private static void worstOfNoWholePlan() {
        Check.sentence("17: STATE");
        PlanCabinet c = wholeAndNot();
        Check.due("a READ", STATE, c.worst(2));
        Check.due("a JOIN of two of three", STATE, c.worst(4));
    }

    private static void blindWhenNotWhole() {
        Check.sentence("18: STATE");
        for (PlanCabinet c : notWhole()) {
            Check.due("not WHOLE", STATE, c.blind());
        }
        Check.due("the least question", 0, Questions.tables(1).blind());
        Check.due("with 60 plans", 1, Questions.fillPlans(Questions.three()).blind());
    }

    private static void coverOfBadHundredths() {
        Check.sentence("19: BAD: d not 0 .. 10000");
        PlanCabinet c = Questions.three();
        Check.dueForEach("d", BAD, c::cover, BAD_HUNDREDTHS);
        for (PlanCabinet not : notWhole()) {
            Check.dueForEach("not WHOLE, d", BAD, not::cover, BAD_HUNDREDTHS);
        }
        Check.due("the least", 3, c.cover(0));
        Check.due("the greatest", 1, c.cover(10000));
    }

    private static void coverWhenNotWhole() {
        Check.sentence("19: STATE");
        for (PlanCabinet c : notWhole()) {
            Check.dueForEach("d", STATE, c::cover, 0, 1, 9999, 10000);
        }
        PlanCabinet c = Questions.fillPlans(Questions.three());
        Check.due("with 60 plans", 3, c.cover(0));
        Check.due("no plan came", 60, c.count(3));
    }

    /**
     * No question has more than 8 spans, so that what is told is put in by hand: keen ones of
     * which number i is the least one between i / 4 and (i + 1) / 4 alone.
     */
    private static void coverOfMoreThanSixteenSpans() throws ReflectiveOperationException {
        Check.sentence("19: STATE: also with more than 16 SPANS");
        PlanCabinet sixteen = withSpans(16);
        Check.due("16 spans", 16, sixteen.spans());
        Check.due("all are needed", (1 << 16) - 1, sixteen.cover(0));
        Check.due("one is enough", 1, sixteen.cover(10000));
        PlanCabinet seventeen = withSpans(17);
        Check.due("17 spans", 17, seventeen.spans());
        Check.dueForEach("d", STATE, seventeen::cover, 0, 10000);
        Check.dueForEach("BAD comes first, d", BAD, seventeen::cover, BAD_HUNDREDTHS);
    }

    private static PlanCabinet withSpans(int number) throws ReflectiveOperationException {
        PlanCabinet c = Questions.tables(1);
        c.spans();
        Object spans = field(PlanCabinet.class, "spans").get(c);
        Object[] keen = (Object[]) field(spans.getClass(), "keenPlans").get(spans);
        Constructor<?> plan = keen.getClass().getComponentType().getDeclaredConstructor(
            int.class, int.class, long.class, long.class, boolean.class);
        plan.setAccessible(true);
        long a = 1000;
        for (int i = 0; i < number; i++) {
            a += i;
            keen[i] = plan.newInstance(1, 0, a, 4L * (number - i), false);
        }
        field(spans.getClass(), "count").setInt(spans, number);
        Method measure = spans.getClass().getDeclaredMethod("findLeastPrices");
        measure.setAccessible(true);
        measure.invoke(spans);
        return c;
    }

    private static Field field(Class<?> of, String name) throws NoSuchFieldException {
        Field field = of.getDeclaredField(name);
        field.setAccessible(true);
        return field;
    }
}
