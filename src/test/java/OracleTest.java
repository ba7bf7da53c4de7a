import java.util.Random;

/** Random runs of calls, each answered by the class and by the oracle. */
public final class OracleTest {
    private static final int RUNS = Integer.getInteger("runs", 200);
    private static final int CALLS = 512;
    private static final int[] ODD = {-1, -2, 4, 9, 60, 10001, Integer.MIN_VALUE, Integer.MAX_VALUE};

    private final Random random;
    private final PlanCabinet cabinet = new PlanCabinet();
    private final Oracle oracle = new Oracle();
    private final StringBuilder told = new StringBuilder();
    private final int values;
    private int calls;
    private int plans;

    private OracleTest(long seed) {
        random = new Random(seed);
        values = 1 + random.nextInt(4);
    }

    public static void main(String[] args) {
        int mostSpans = 0;
        for (int seed = 0; seed < RUNS && Check.faults() == 0; seed++) {
            OracleTest test = new OracleTest(seed);
            mostSpans = Math.max(mostSpans, test.run());
            if (Check.faults() > 0) {
                System.out.println("seed " + seed + ":\n" + test.told);
            }
        }
        System.out.println("most spans seen: " + mostSpans);
        Check.end("OracleTest");
    }

    private int run() {
        int mostSpans = 0;
        while (calls < CALLS && Check.faults() == 0) {
            build();
            mostSpans = Math.max(mostSpans, cabinet.spans());
            int asks = 20 + random.nextInt(200);
            for (int i = 0; i < asks && calls < CALLS && Check.faults() == 0; i++) {
                ask();
            }
            checkAll();
            due("clear()", oracle.clear(), cabinet.clear());
        }
        return mostSpans;
    }

    private void due(String call, long want, long got) {
        calls++;
        told.append(call).append(" = ").append(got).append('\n');
        Check.due(call, want, got);
        plans = cabinet.count(3);
    }

    private int below(int bound) {
        return random.nextInt(40) == 0 ? ODD[random.nextInt(ODD.length)] : random.nextInt(bound);
    }

    private int value() {
        int value = random.nextInt(values);
        return random.nextInt(10) == 0 ? (random.nextBoolean() ? Integer.MIN_VALUE + value
            : Integer.MAX_VALUE - value) : value;
    }

    private void build() {
        int tables = 1 + random.nextInt(5);
        for (int t = 0; t < tables; t++) {
            due("table()", oracle.table(), cabinet.table());
        }
        int most = 1 + random.nextInt(8);
        for (int t = 0; t < 4; t++) {
            int rows = 1 + random.nextInt(most);
            for (int row = 0; row < rows; row++) {
                row(random.nextInt(20) == 0 ? below(5) : t);
            }
        }
        for (int u = 1; u < 4; u++) {
            pair(random.nextInt(u), u, below(5));
        }
        for (int i = random.nextInt(3); i > 0; i--) {
            pair(below(4), below(4), below(6));
        }
        if (random.nextInt(3) > 0) {
            order();
        }
    }

    private void row(int t) {
        int a = value();
        int b = value();
        int c = value();
        due("row(" + t + ", " + a + ", " + b + ", " + c + ")", oracle.row(t, a, b, c),
            cabinet.row(t, a, b, c));
    }

    private void pair(int t, int u, int share) {
        int column = below(3);
        int other = below(3);
        due("pair(" + t + ", " + column + ", " + u + ", " + other + ", " + share + ")",
            oracle.pair(t, column, u, other, share), cabinet.pair(t, column, u, other, share));
    }

    private void order() {
        int t = random.nextInt(6) == 0 ? -1 : below(5);
        int column = below(3);
        due("order(" + t + ", " + column + ")", oracle.order(t, column), cabinet.order(t, column));
    }

    private int plan() {
        return random.nextInt(3) == 0 ? below(Math.max(1, plans))
            : below(Math.max(1, plans)) | random.nextInt(2);
    }

    private void ask() {
        int i = below(4);
        int k = below(33);
        int p = plan();
        int d = random.nextInt(4) == 0 ? below(10001) : below(120);
        switch (random.nextInt(26)) {
            case 0: due("table()", oracle.table(), cabinet.table()); break;
            case 1: row(below(4)); break;
            case 2: pair(below(3), 1 + random.nextInt(3), below(5)); break;
            case 3: order(); break;
            case 4: case 5: due("read(" + i + ")", oracle.read(i), cabinet.read(i)); break;
            case 6: case 7: case 8: case 9: join(); break;
            case 10: code(p); break;
            case 11: due("about(" + p + ", " + i + ")", oracle.about(p, i), cabinet.about(p, i)); break;
            case 12: due("price(" + p + ", " + i + ")", oracle.price(p, i), cabinet.price(p, i)); break;
            case 13: due("best(" + k + ")", oracle.best(k), cabinet.best(k)); break;
            case 14: due("spans()", oracle.spans(), cabinet.spans()); break;
            case 15: border(); break;
            case 16: due("keen(" + i + ")", oracle.keen(i), cabinet.keen(i)); break;
            case 17: due("near(" + p + ", " + k + ", " + d + ")", oracle.near(p, k, d),
                cabinet.near(p, k, d)); break;
            case 18: due("worst(" + p + ")", oracle.worst(p), cabinet.worst(p)); break;
            case 19: due("blind()", oracle.blind(), cabinet.blind()); break;
            case 20: due("cover(" + d + ")", oracle.cover(d), cabinet.cover(d)); break;
            case 21: case 22: due("run(" + p + ")", oracle.run(p), cabinet.run(p)); break;
            case 23: due("steps()", oracle.steps(), cabinet.steps()); break;
            case 24: due("holds(" + i + ")", oracle.holds(i), cabinet.holds(i)); break;
            default: due("count(" + k % 8 + ")", oracle.count(k % 8), cabinet.count(k % 8)); break;
        }
    }

    private void join() {
        int kind = below(3);
        int left = plan();
        int right = plan();
        due("join(" + kind + ", " + left + ", " + right + ")", oracle.join(kind, left, right),
            cabinet.join(kind, left, right));
    }

    private void code(int p) {
        for (int i = -1; i < 8; i++) {
            Check.due("code(" + p + ", " + i + ")", oracle.code(p, i), cabinet.code(p, i));
        }
    }

    private void border() {
        int i = below(3);
        for (int what = -1; what < 5; what++) {
            Check.due("border(" + i + ", " + what + ")", oracle.border(i, what),
                cabinet.border(i, what));
        }
    }

    /** Everything that can be asked of the state; these calls go beyond the run's number. */
    private void checkAll() {
        for (int p = 0; p < cabinet.count(3); p++) {
            for (int i = 0; i < 7; i++) {
                Check.due("code(" + p + ", " + i + ")", oracle.code(p, i), cabinet.code(p, i));
                Check.due("about(" + p + ", " + i + ")", oracle.about(p, i), cabinet.about(p, i));
                Check.due("price(" + p + ", " + i + ")", oracle.price(p, i), cabinet.price(p, i));
            }
        }
        for (int p = 0; p < cabinet.count(3); p += 3) {
            Check.due("run(" + p + ")", oracle.run(p), cabinet.run(p));
            Check.due("steps()", oracle.steps(), cabinet.steps());
            for (int i = 0; i <= oracle.run(p) && i < 600; i++) {
                for (int t = 0; t < 4; t++) {
                    Check.due("run(" + p + "), out(" + i + ", " + t + ")", oracle.out(i, t),
                        cabinet.out(i, t));
                }
            }
        }
        for (int what = -1; what < 8; what++) {
            Check.due("count(" + what + ")", oracle.count(what), cabinet.count(what));
        }
        for (int i = 0; i < cabinet.spans(); i++) {
            for (int what = 0; what < 4; what++) {
                Check.due("border(" + i + ", " + what + ")", oracle.border(i, what),
                    cabinet.border(i, what));
            }
        }
    }
}
