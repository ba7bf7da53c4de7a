import java.util.ArrayList;
import java.util.Comparator;
import java.util.LinkedHashMap;
import java.util.List;
import java.util.Map;

/**
 * The document once more, in the slowest and plainest way: every plan is built as a tree, every
 * price is a fraction, every set is tried. It shares no code and no method with the class.
 */
final class Oracle {
    static final int NONE = -1;
    static final int BAD = -2;
    static final int STATE = -3;
    static final int FULL = -4;
    static final long NO = Long.MIN_VALUE;

    private record Pairing(int t, int column, int u, int other, int share) {
    }

    /** A read has no left and right; its number is the table, and that of a join its kind. */
    private record Tree(int number, Tree left, Tree right) {
        boolean isRead() {
            return left == null;
        }

        int set() {
            return isRead() ? 1 << number : left.set() | right.set();
        }

        void addCode(List<Integer> code) {
            code.add(isRead() ? number : 4 + number);
            if (!isRead()) {
                left.addCode(code);
                right.addCode(code);
            }
        }

        List<Integer> numbers() {
            List<Integer> code = new ArrayList<>();
            addCode(code);
            return code;
        }
    }

    private record Line(Fraction a, Fraction b) {
        Fraction at(Fraction x) {
            return a.plus(b.times(x));
        }

        Line plus(Line other) {
            return new Line(a.plus(other.a), b.plus(other.b));
        }

        Line times(Line other) {
            if (b.above.signum() != 0 && other.b.above.signum() != 0) {
                throw new IllegalStateException("x times x");
            }
            return new Line(a.times(other.a), a.times(other.b).plus(b.times(other.a)));
        }

        Line times(int factor) {
            return times(constant(factor));
        }

        static Line constant(long n) {
            return new Line(Fraction.of(n, 1), Fraction.ZERO);
        }
    }

    private record Span(Fraction from, Fraction to, Tree tree, Line line) {
    }

    private final List<List<int[]>> tables = new ArrayList<>();
    private final List<Pairing> pairings = new ArrayList<>();
    private int orderTable = -1;
    private int orderColumn;
    private final List<Tree> plans = new ArrayList<>();
    private List<Integer[]> latest = new ArrayList<>();
    private int latestSteps;

    private List<Tree> wholeTrees;
    private Map<Line, Tree> firstOfLine;
    private List<Span> told;

    int table() {
        if (!plans.isEmpty()) {
            return STATE;
        }
        if (tables.size() == 4) {
            return FULL;
        }
        changed();
        tables.add(new ArrayList<>());
        return tables.size() - 1;
    }

    int row(int t, int a, int b, int c) {
        if (!isTable(t)) {
            return NONE;
        }
        if (!plans.isEmpty()) {
            return STATE;
        }
        if (tables.get(t).size() == 8) {
            return FULL;
        }
        changed();
        tables.get(t).add(new int[] {a, b, c});
        return tables.get(t).size() - 1;
    }

    int pair(int t, int column, int u, int other, int share) {
        if (!isTable(t) || !isTable(u) || !isColumn(column) || !isColumn(other)) {
            return NONE;
        }
        if (u <= t || share < 0 || share > 4) {
            return BAD;
        }
        if (!plans.isEmpty() || (share == 0 && open() >= 0)) {
            return STATE;
        }
        if (pairings.size() == 4) {
            return FULL;
        }
        changed();
        pairings.add(new Pairing(t, column, u, other, share));
        return pairings.size() - 1;
    }

    int order(int t, int column) {
        if (t != -1 && (!isTable(t) || !isColumn(column))) {
            return NONE;
        }
        if (!plans.isEmpty()) {
            return STATE;
        }
        changed();
        orderTable = t;
        orderColumn = column;
        return 0;
    }

    int clear() {
        int gone = plans.size();
        plans.clear();
        return gone;
    }

    int read(int t) {
        if (!isTable(t)) {
            return NONE;
        }
        return isWhole() ? add(new Tree(t, null, null)) : STATE;
    }

    int join(int kind, int left, int right) {
        if (!isPlan(left) || !isPlan(right)) {
            return NONE;
        }
        if (kind < 0 || kind > 2) {
            return BAD;
        }
        int leftSet = plans.get(left).set();
        int rightSet = plans.get(right).set();
        if ((leftSet & rightSet) != 0 || between(leftSet, rightSet).isEmpty()) {
            return STATE;
        }
        return add(new Tree(kind, plans.get(left), plans.get(right)));
    }

    int code(int plan, int i) {
        if (!isPlan(plan)) {
            return NONE;
        }
        List<Integer> code = plans.get(plan).numbers();
        return i >= 0 && i < code.size() ? code.get(i) : NONE;
    }

    int about(int plan, int what) {
        if (!isPlan(plan) || what < 0 || what > 3) {
            return NONE;
        }
        Tree tree = plans.get(plan);
        if (what == 0) {
            return tree.set();
        }
        if (what == 1) {
            return (int) tree.numbers().stream().filter(n -> n >= 4).count();
        }
        return (what == 2 ? isInOrder(tree) : isWholeTree(tree)) ? 1 : 0;
    }

    long price(int plan, int what) {
        if (!isPlan(plan) || what < 0 || what > 3) {
            return NO;
        }
        Tree tree = plans.get(plan);
        Line line = what < 2 ? priceOf(tree) : sizeOf(tree.set());
        return (what % 2 == 0 ? line.a : line.b).parts();
    }

    int best(int point) {
        if (!isPoint(point)) {
            return NONE;
        }
        return isWhole() ? add(cheapest(x(point))) : STATE;
    }

    int spans() {
        return isWhole() ? allSpans().size() : STATE;
    }

    long border(int i, int what) {
        if (!isWhole() || i < 0 || i >= allSpans().size() || what < 0 || what > 3) {
            return NO;
        }
        Span span = allSpans().get(i);
        Fraction border = what < 2 ? span.from : span.to;
        return (what % 2 == 0 ? border.above : border.below).longValueExact();
    }

    int keen(int i) {
        if (i < 0) {
            return NONE;
        }
        if (!isWhole()) {
            return STATE;
        }
        return i < allSpans().size() ? add(allSpans().get(i).tree) : NONE;
    }

    int near(int plan, int point, int d) {
        if (!isPlan(plan) || !isPoint(point)) {
            return NONE;
        }
        if (d < 0 || d > 10000) {
            return BAD;
        }
        if (!isWholeTree(plans.get(plan))) {
            return STATE;
        }
        return isNear(priceOf(plans.get(plan)), point, d) ? 1 : 0;
    }

    int worst(int plan) {
        if (!isPlan(plan)) {
            return NONE;
        }
        return isWholeTree(plans.get(plan)) ? worstOf(priceOf(plans.get(plan))) : STATE;
    }

    int blind() {
        if (!isWhole()) {
            return STATE;
        }
        int chosen = -1;
        Fraction least = null;
        for (int i = 0; i < allSpans().size(); i++) {
            Line line = allSpans().get(i).line;
            Fraction greatest = regret(line, worstOf(line));
            if (least == null || greatest.compareTo(least) < 0) {
                least = greatest;
                chosen = i;
            }
        }
        return chosen;
    }

    int cover(int d) {
        if (d < 0 || d > 10000) {
            return BAD;
        }
        if (!isWhole() || allSpans().size() > 16) {
            return STATE;
        }
        for (int number = 1; number <= allSpans().size(); number++) {
            int set = firstEnough(0, 0, number, d);
            if (set != 0) {
                return set;
            }
        }
        throw new IllegalStateException("all keen plans are not enough");
    }

    int run(int plan) {
        if (!isPlan(plan)) {
            return NONE;
        }
        Tree tree = plans.get(plan);
        latestSteps = 0;
        latest = work(tree);
        if (isWholeTree(tree) && orderTable >= 0 && !isInOrder(tree)) {
            latest.sort(byValue(orderTable, orderColumn));
            latestSteps += 3 * latest.size();
        }
        return latest.size();
    }

    int steps() {
        return latestSteps;
    }

    int out(int i, int t) {
        if (i < 0 || i >= latest.size() || t < 0 || t > 3 || latest.get(i)[t] == null) {
            return NONE;
        }
        return latest.get(i)[t];
    }

    int holds(int pairing) {
        if (pairing < 0 || pairing >= pairings.size()) {
            return NONE;
        }
        Pairing p = pairings.get(pairing);
        int found = 0;
        for (int[] low : tables.get(p.t)) {
            for (int[] high : tables.get(p.u)) {
                found += low[p.column] == high[p.other] ? 1 : 0;
            }
        }
        return found;
    }

    int count(int what) {
        switch (what) {
            case 0: return tables.size();
            case 1: return tables.stream().mapToInt(List::size).sum();
            case 2: return pairings.size();
            case 3: return plans.size();
            case 4: return open();
            case 5: return isWhole() ? 1 : 0;
            case 6: return isWhole() ? allWhole().size() : 0;
            default: return NONE;
        }
    }

    private void changed() {
        wholeTrees = null;
        firstOfLine = null;
        told = null;
    }

    private int add(Tree tree) {
        if (plans.size() == 60) {
            return FULL;
        }
        plans.add(tree);
        return plans.size() - 1;
    }

    private boolean isTable(int t) {
        return t >= 0 && t < tables.size();
    }

    private static boolean isColumn(int c) {
        return c >= 0 && c < 3;
    }

    private boolean isPlan(int plan) {
        return plan >= 0 && plan < plans.size();
    }

    private static boolean isPoint(int point) {
        return point >= 0 && point <= 32;
    }

    private static Fraction x(int point) {
        return Fraction.of(point, 8);
    }

    private int open() {
        for (int p = 0; p < pairings.size(); p++) {
            if (pairings.get(p).share == 0) {
                return p;
            }
        }
        return NONE;
    }

    private boolean isWhole() {
        if (tables.isEmpty() || tables.stream().anyMatch(List::isEmpty)) {
            return false;
        }
        // It falls apart if a set that is not all of it has no pairing to the rest.
        int all = (1 << tables.size()) - 1;
        for (int set = 1; set < all; set++) {
            if (between(set, all & ~set).isEmpty()) {
                return false;
            }
        }
        return true;
    }

    private boolean isWholeTree(Tree tree) {
        return tree.set() == (1 << tables.size()) - 1;
    }

    private static boolean has(int set, int t) {
        return (set & 1 << t) != 0;
    }

    private List<Pairing> between(int left, int right) {
        List<Pairing> found = new ArrayList<>();
        for (Pairing p : pairings) {
            if ((has(left, p.t) && has(right, p.u)) || (has(left, p.u) && has(right, p.t))) {
                found.add(p);
            }
        }
        return found;
    }

    private boolean isInOrder(Tree tree) {
        if (tree.isRead() || tree.number != 2 || orderTable < 0) {
            return false;
        }
        Pairing p = between(tree.left.set(), tree.right.set()).get(0);
        return (p.t == orderTable && p.column == orderColumn)
            || (p.u == orderTable && p.other == orderColumn);
    }

    private Line sizeOf(int set) {
        Line size = Line.constant(1);
        for (int t = 0; t < tables.size(); t++) {
            if (has(set, t)) {
                size = size.times(tables.get(t).size());
            }
        }
        for (Pairing p : pairings) {
            if (has(set, p.t) && has(set, p.u)) {
                Fraction quarter = Fraction.of(1, 4);
                size = size.times(p.share == 0 ? new Line(Fraction.ZERO, quarter)
                    : new Line(Fraction.of(p.share, 4), Fraction.ZERO));
            }
        }
        return size;
    }

    private Line priceOf(Tree tree) {
        Line price = priceWithoutOrder(tree);
        if (isWholeTree(tree) && orderTable >= 0 && !isInOrder(tree)) {
            price = price.plus(sizeOf(tree.set()).times(3));
        }
        return price;
    }

    private Line priceWithoutOrder(Tree tree) {
        if (tree.isRead()) {
            return Line.constant(tables.get(tree.number).size());
        }
        Line left = sizeOf(tree.left.set());
        Line right = sizeOf(tree.right.set());
        Line own = tree.number == 0 ? left.times(right)
            : left.plus(right).times(tree.number == 1 ? 2 : 3);
        return priceWithoutOrder(tree.left).plus(priceWithoutOrder(tree.right)).plus(own);
    }

    private List<Tree> treesOf(int set) {
        List<Tree> trees = new ArrayList<>();
        for (int t = 0; t < tables.size(); t++) {
            if (set == 1 << t) {
                trees.add(new Tree(t, null, null));
            }
        }
        for (int left = 1; left < set; left++) {
            int right = set & ~left;
            if ((left & set) != left || between(left, right).isEmpty()) {
                continue;
            }
            List<Tree> rights = treesOf(right);
            for (Tree l : treesOf(left)) {
                for (Tree r : rights) {
                    for (int kind = 0; kind < 3; kind++) {
                        trees.add(new Tree(kind, l, r));
                    }
                }
            }
        }
        return trees;
    }

    private List<Tree> allWhole() {
        if (wholeTrees == null) {
            wholeTrees = treesOf((1 << tables.size()) - 1);
        }
        return wholeTrees;
    }

    private static boolean isFirst(Tree tree, Tree other) {
        List<Integer> code = tree.numbers();
        List<Integer> otherCode = other.numbers();
        for (int i = 0; i < code.size(); i++) {
            int order = code.get(i).compareTo(otherCode.get(i));
            if (order != 0) {
                return order < 0;
            }
        }
        return false;
    }

    /** Of the plans that have one line only the FIRST can ever be asked for. */
    private Map<Line, Tree> lines() {
        if (firstOfLine == null) {
            firstOfLine = new LinkedHashMap<>();
            for (Tree tree : allWhole()) {
                firstOfLine.merge(priceOf(tree), tree, (a, b) -> isFirst(b, a) ? b : a);
            }
        }
        return firstOfLine;
    }

    private Fraction least(Fraction x) {
        return lines().keySet().stream().map(line -> line.at(x)).min(Comparator.naturalOrder()).get();
    }

    private Tree cheapest(Fraction x) {
        Fraction least = least(x);
        Tree chosen = null;
        for (Map.Entry<Line, Tree> entry : lines().entrySet()) {
            if (entry.getKey().at(x).equals(least)
                && (chosen == null || isFirst(entry.getValue(), chosen))) {
                chosen = entry.getValue();
            }
        }
        return chosen;
    }

    private List<Span> allSpans() {
        if (told == null) {
            told = new ArrayList<>();
            Fraction end = Fraction.of(4, 1);
            Fraction from = Fraction.ZERO;
            while (from.compareTo(end) < 0) {
                Line line = lineBehind(from);
                Fraction to = end;
                for (Line other : lines().keySet()) {
                    if (other.b.compareTo(line.b) < 0) {
                        Fraction meets = other.a.minus(line.a).by(line.b.minus(other.b));
                        to = meets.compareTo(to) < 0 ? meets : to;
                    }
                }
                told.add(new Span(from, to, lines().get(line), line));
                from = to;
            }
        }
        return told;
    }

    /** The line that is least just behind x. */
    private Line lineBehind(Fraction x) {
        Line chosen = null;
        for (Line line : lines().keySet()) {
            int order = chosen == null ? -1 : line.at(x).compareTo(chosen.at(x));
            if (order < 0 || (order == 0 && line.b.compareTo(chosen.b) < 0)) {
                chosen = line;
            }
        }
        return chosen;
    }

    private Fraction regret(Line line, int point) {
        return line.at(x(point)).by(least(x(point)));
    }

    private int worstOf(Line line) {
        int worst = 0;
        Fraction greatest = regret(line, 0);
        for (int point = 1; point <= 32; point++) {
            Fraction here = regret(line, point);
            if (here.compareTo(greatest) > 0) {
                greatest = here;
                worst = point;
            }
        }
        return worst;
    }

    private boolean isNear(Line line, int point, int d) {
        return regret(line, point).compareTo(Fraction.of(100 + d, 100)) <= 0;
    }

    /** The first set in the order of rows of rising spans, or 0. */
    private int firstEnough(int set, int from, int more, int d) {
        if (more == 0) {
            return isEnough(set, d) ? set : 0;
        }
        for (int i = from; i < allSpans().size(); i++) {
            int found = firstEnough(set | 1 << i, i + 1, more - 1, d);
            if (found != 0) {
                return found;
            }
        }
        return 0;
    }

    private boolean isEnough(int set, int d) {
        for (int point = 0; point <= 32; point++) {
            boolean near = false;
            for (int i = 0; i < allSpans().size(); i++) {
                near |= has(set, i) && isNear(allSpans().get(i).line, point, d);
            }
            if (!near) {
                return false;
            }
        }
        return true;
    }

    private Comparator<Integer[]> byValue(int t, int column) {
        return Comparator.comparingInt(rows -> tables.get(t).get(rows[t])[column]);
    }

    private List<Integer[]> work(Tree tree) {
        List<Integer[]> found = new ArrayList<>();
        if (tree.isRead()) {
            for (int row = 0; row < tables.get(tree.number).size(); row++) {
                Integer[] rows = new Integer[4];
                rows[tree.number] = row;
                found.add(rows);
                latestSteps++;
            }
            return found;
        }
        List<Integer[]> lefts = work(tree.left);
        List<Integer[]> rights = work(tree.right);
        List<Pairing> pairs = between(tree.left.set(), tree.right.set());
        for (Integer[] left : lefts) {
            for (Integer[] right : rights) {
                Integer[] both = left.clone();
                for (int t = 0; t < 4; t++) {
                    both[t] = right[t] != null ? right[t] : both[t];
                }
                if (pairs.stream().allMatch(p -> isHeld(p, both))) {
                    found.add(both);
                }
            }
        }
        latestSteps += tree.number == 0 ? lefts.size() * rights.size()
            : (tree.number == 1 ? 2 : 3) * (lefts.size() + rights.size());
        if (tree.number == 2) {
            found.sort(byValue(pairs.get(0).t, pairs.get(0).column));
        }
        return found;
    }

    private boolean isHeld(Pairing p, Integer[] rows) {
        return tables.get(p.t).get(rows[p.t])[p.column] == tables.get(p.u).get(rows[p.u])[p.other];
    }
}
