/** Runs of calls that a fixed sequence of numbers chooses, on the program and on the Oracle. */
public final class OracleTest {
    private static final int CALLS = 40;

    private final Checks checks = new Checks();
    private final StringBuilder told = new StringBuilder();
    private long seed;
    private StoneRoads roads;
    private Oracle oracle;

    public static void main(String[] args) {
        int runs = args.length > 0 ? Integer.parseInt(args[0]) : 1500;
        int first = args.length > 1 ? Integer.parseInt(args[1]) : 0;
        OracleTest test = new OracleTest();
        for (int run = first; run < first + runs && !test.checks.isWrong(); run++) {
            test.run(run);
        }
        test.compareLong(PlanTest.LONG_CORNER, PlanTest.LONG_CORNER_KINDS, PlanTest.LONG_CORNER_BASES);
        test.compareLong(BestTest.LONG_LEAST, BestTest.LONG_LEAST_KINDS, BestTest.LONG_LEAST_BASES);
        test.checks.finish();
    }

    /** 0 .. n-1, the same on every machine. */
    private int any(int n) {
        seed = seed * 6364136223846793005L + 1442695040888963407L;
        return (int) ((seed >>> 33) % n);
    }

    private void run(int number) {
        seed = number * 7919L + 17;
        any(2);
        roads = new StoneRoads();
        oracle = new Oracle();
        told.setLength(0);
        // Few kinds of numbers make many zeros and many of several alike.
        int spread = any(3) == 0 ? 3 : any(2) == 0 ? 12 : 100;
        if (any(4) != 0) {
            lay(spread);
        }
        int calls = 30 + any(150);
        for (int c = 0; c < calls && !checks.isWrong(); c++) {
            call(any(CALLS + 12), spread);
        }
        if (!checks.isWrong()) {
            compareAll();
        }
        if (checks.isWrong()) {
            System.out.println("in run " + number + ": " + told);
        }
    }

    /** A ground by which some PLANS aren't PROVED behind 100 STEPS. */
    private void compareLong(String sites, int[] kinds, int[] bases) {
        roads = PlanTest.laid(sites, kinds, bases);
        oracle = new Oracle();
        for (int k = 0; k < sites.length(); k++) {
            oracle.feed(sites.charAt(k));
        }
        oracle.read();
        for (int n = 0; n < 25; n++) {
            oracle.road(n / 5, n % 5, kinds[n], bases[n]);
        }
        for (int rule = 0; rule < 3; rule++) {
            due("start " + rule, roads.start(rule), oracle.start(rule));
            due("step 1 100", roads.step(1, 100), oracle.step(1, 100));
            compareAll();
        }
        for (int n = 0; n < 25; n++) {
            int i = n / 5;
            int j = n % 5;
            due("more " + i + " " + j, roads.more(i, j), oracle.more(i, j));
            due("fits " + i + " " + j, roads.fits(i, j, 0), oracle.fits(i, j, 0));
            due("odds " + i + " " + j, roads.odds(i, j, 0), oracle.odds(i, j, 0));
        }
    }

    private void lay(int spread) {
        int m = 1 + any(5);
        int n = 1 + any(5);
        for (int i = 0; i < m; i++) {
            quarry(any(spread), any(10));
        }
        for (int j = 0; j < n; j++) {
            work(any(spread), any(10));
        }
        for (int i = 0; i < m; i++) {
            for (int j = 0; j < n; j++) {
                int kind = any(12) == 0 ? 3 : any(3);
                int base = any(spread);
                due("road " + i + " " + j + " " + kind + " " + base,
                        roads.road(i, j, kind, base), oracle.road(i, j, kind, base));
            }
        }
    }

    private void due(String call, long got, long want) {
        told.append(call).append(" = ").append(want).append("; ");
        checks.due(call, got, want);
    }

    private void quarry(int a, int b) {
        due("quarry " + a + " " + b, roads.quarry(a, b), oracle.quarry(a, b));
    }

    private void work(int a, int b) {
        due("work " + a + " " + b, roads.work(a, b), oracle.work(a, b));
    }

    /** Mostly 0 .. n-1, now and then a little or far beyond. */
    private int near(int n) {
        switch (any(24)) {
            case 0: return -1;
            case 1: return n;
            case 2: return any(2) == 0 ? Integer.MAX_VALUE : Integer.MIN_VALUE;
            default: return any(n);
        }
    }

    private void call(int which, int spread) {
        if (which < 20) {
            callGround(which, spread);
        } else if (which < 40) {
            callBest(which);
        } else {
            callTape(which);
        }
    }

    private void callGround(int which, int spread) {
        int i = near(6);
        int j = near(6);
        int k = near(3);
        int v = near(spread);
        switch (which) {
            case 0: quarry(v, near(10)); break;
            case 1: work(v, near(10)); break;
            case 2: due("renew " + k + " " + i + " " + j % 3 + " " + v,
                    roads.renew(k, i, j % 3, v), oracle.renew(k, i, j % 3, v)); break;
            case 3: due("road " + i + " " + j + " " + k + " " + v,
                    roads.road(i, j, k, v), oracle.road(i, j, k, v)); break;
            case 4: due("of " + k + " " + i + " " + j % 3, roads.of(k, i, j % 3), oracle.of(k, i, j % 3)); break;
            case 5: due("roadOf " + i + " " + j + " " + k, roads.roadOf(i, j, k), oracle.roadOf(i, j, k)); break;
            case 6: text(); break;
            case 7:
            case 8:
            case 9: due("start " + k, roads.start(k), oracle.start(k)); break;
            case 10: due("step " + k + " 1", roads.step(k, 1), oracle.step(k, 1)); break;
            case 11: int n = near(102); due("step " + k + " " + n, roads.step(k, n), oracle.step(k, n)); break;
            case 12: due("load " + i + " " + j, roads.load(i, j), oracle.load(i, j)); break;
            case 13: due("basic " + i + " " + j, roads.basic(i, j), oracle.basic(i, j)); break;
            case 14: due("worth " + k + " " + i, roads.worth(k, i), oracle.worth(k, i)); break;
            case 15: due("surplus " + i + " " + j, roads.surplus(i, j), oracle.surplus(i, j)); break;
            case 16: int at = near(12) - 2; due("loop " + i + " " + j + " " + at,
                    roads.loop(i, j, at), oracle.loop(i, j, at)); break;
            case 17: due("enters " + k, roads.enters(k), oracle.enters(k)); break;
            case 18: int what = near(8); due("told " + what, roads.told(what), oracle.told(what)); break;
            default: due("trace " + i + " " + k, roads.trace(i, k), oracle.trace(i, k)); break;
        }
    }

    private void callBest(int which) {
        int i = near(5);
        int j = near(5);
        int k = near(3);
        int what = near(2);
        switch (which) {
            case 20: due("best " + k + " " + i % 3 + " " + what,
                    roads.best(k, i % 3, what), oracle.best(k, i % 3, what)); break;
            case 21: due("cheapest " + what, roads.cheapest(what), oracle.cheapest(what)); break;
            case 22: due("more " + i + " " + j, roads.more(i, j), oracle.more(i, j)); break;
            case 23: due("rise " + i + " " + j, roads.rise(i, j), oracle.rise(i, j)); break;
            case 24: due("missed " + what, roads.missed(what), oracle.missed(what)); break;
            case 25:
            case 26: see(i, j); break;
            case 27: due("fits " + i + " " + j + " " + what, roads.fits(i, j, what), oracle.fits(i, j, what)); break;
            case 28: due("odds " + i + " " + j + " " + what, roads.odds(i, j, what), oracle.odds(i, j, what)); break;
            case 29: due("mean " + what, roads.mean(what), oracle.mean(what)); break;
            case 30:
            case 31:
            case 32: order(near(4)); break;
            case 33: due("ends " + k, roads.ends(k), oracle.ends(k)); break;
            case 34:
            case 35: book(i, j); break;
            case 36: due("looked", roads.looked(), oracle.looked()); break;
            case 37: due("image", roads.image(), oracle.image()); break;
            case 38: due("undo", roads.undo(), oracle.undo()); break;
            default: int n = near(8); due("count " + n, roads.count(n), oracle.count(n)); break;
        }
    }

    private void see(int i, int j) {
        int n = any(2) == 0 ? Math.max(0, oracle.load(i, j)) : near(100);
        due("see " + i + " " + j + " " + n, roads.see(i, j, n), oracle.see(i, j, n));
    }

    private void book(int i, int j) {
        int n = any(4) != 0 ? Math.max(0, oracle.load(i, j)) : near(100);
        due("book " + i + " " + j + " " + n, roads.book(i, j, n), oracle.book(i, j, n));
    }

    private void order(int what) {
        int n = what == 2 ? 10 * near(5) + near(5) : near(5);
        due("order " + what + " " + n, roads.order(what, n), oracle.order(what, n));
    }

    private void callTape(int which) {
        int tape = near(6);
        int i = near(12);
        switch (which) {
            case 40:
            case 41: int sort = any(2) == 0 ? 3 : near(5); int n = any(8) == 0 ? near(61) : near(12);
                due("tape " + tape + " " + sort + " " + n,
                        roads.tape(tape, sort, n), oracle.tape(tape, sort, n)); break;
            case 42:
            case 43: long v = any(3) == 0 ? seed : near(200);
                due("item " + tape + " " + i + " " + v, roads.item(tape, i, v), oracle.item(tape, i, v)); break;
            case 44: due("peek " + tape + " " + i, roads.peek(tape, i), oracle.peek(tape, i)); break;
            case 45:
            case 46: int other = near(6); int j = near(12); int many = near(8);
                due("shift " + tape + " " + i + " " + other + " " + j + " " + many,
                        roads.shift(tape, i, other, j, many), oracle.shift(tape, i, other, j, many)); break;
            case 47:
            case 48: tellLoads(any(6)); break;
            case 49: due("judge " + tape + " " + i, roads.judge(tape, i), oracle.judge(tape, i)); break;
            default: text(); break;
        }
    }

    /** A TAPE that is nearly as the PLAN is, and judged. */
    private void tellLoads(int tape) {
        int from = any(4);
        int n = from + (any(3) == 0 ? any(30) : 30);
        due("tape " + tape + " 3 " + n, roads.tape(tape, 3, n), oracle.tape(tape, 3, n));
        int at = from;
        for (int i = 0; i < oracle.told(6); i++) {
            for (int j = 0; j < oracle.told(7); j++) {
                int v = any(60) == 0 ? any(5) : oracle.load(i, j);
                due("item " + tape + " " + at + " " + v, roads.item(tape, at, v), oracle.item(tape, at, v));
                at++;
            }
        }
        due("judge " + tape + " " + from, roads.judge(tape, from), oracle.judge(tape, from));
    }

    private void text() {
        StringBuilder text = new StringBuilder();
        int clauses = any(10) == 0 ? 10 + any(4) : any(5);
        for (int c = 0; c < clauses; c++) {
            text.append(c == 0 ? "" : ";").append(clause());
        }
        if (any(3) == 0) {
            spoil(text);
        }
        for (int k = 0; k < text.length(); k++) {
            due("feed " + (int) text.charAt(k), roads.feed(text.charAt(k)), oracle.feed(text.charAt(k)));
        }
        if (any(8) != 0) {
            due("read", roads.read(), oracle.read());
        }
    }

    private void spoil(StringBuilder text) {
        int at = any(text.length() + 1);
        char sign = any(20) == 0 ? (char) 128 : "qwr,;ptsx0123456789 ".charAt(any(20));
        switch (any(3)) {
            case 0: text.insert(at, sign); break;
            case 1: text.setLength(at); break;
            default:
                if (at < text.length()) {
                    text.setCharAt(at, sign);
                }
                break;
        }
    }

    private String clause() {
        switch (any(6)) {
            case 0: return "q" + any(100) + "," + any(10);
            case 1: return "w" + any(100) + "," + any(10);
            default: return "r" + any(6) + any(6) + "ptsx".charAt(any(4)) + (any(3) == 0 ? "0" : "") + any(10);
        }
    }

    /** At a run's end all that can be asked is; nothing of it may have changed anything. */
    private void compareAll() {
        compareGround();
        comparePlan();
        for (int what = -1; what < 9; what++) {
            due("count " + what, roads.count(what), oracle.count(what));
        }
        for (int what = -1; what < 3; what++) {
            due("cheapest " + what, roads.cheapest(what), oracle.cheapest(what));
            due("missed " + what, roads.missed(what), oracle.missed(what));
            due("ends " + what, roads.ends(what), oracle.ends(what));
            due("mean " + what, roads.mean(what), oracle.mean(what));
        }
        for (int tape = 0; tape < 6; tape++) {
            for (int i = 0; i < 60; i++) {
                due("peek " + tape + " " + i, roads.peek(tape, i), oracle.peek(tape, i));
            }
        }
        int least = oracle.leastCost();
        for (int rule = 0; rule < 3 && least >= 0; rule++) {
            for (int manner = 0; manner < 3; manner++) {
                int best = roads.best(rule, manner, 0);
                due("best " + rule + " " + manner + " 0", best, oracle.best(rule, manner, 0));
                due("best " + rule + " " + manner + " 1", roads.best(rule, manner, 1), oracle.best(rule, manner, 1));
                if (best != -5) {
                    due("the least cost", best, least);
                }
            }
        }
    }

    private void compareGround() {
        for (int i = 0; i < 5; i++) {
            for (int what = 0; what < 2; what++) {
                due("of 0 " + i + " " + what, roads.of(0, i, what), oracle.of(0, i, what));
                due("of 1 " + i + " " + what, roads.of(1, i, what), oracle.of(1, i, what));
            }
            for (int j = 0; j < 5; j++) {
                for (int what = 0; what < 3; what++) {
                    due("roadOf " + i + " " + j + " " + what, roads.roadOf(i, j, what), oracle.roadOf(i, j, what));
                }
            }
        }
    }

    private void comparePlan() {
        for (int what = -1; what < 9; what++) {
            due("told " + what, roads.told(what), oracle.told(what));
        }
        for (int k = 0; k < 100; k++) {
            for (int what = 0; what < 3; what++) {
                due("trace " + k + " " + what, roads.trace(k, what), oracle.trace(k, what));
            }
        }
        for (int i = 0; i < 6; i++) {
            due("worth 0 " + i, roads.worth(0, i), oracle.worth(0, i));
            due("worth 1 " + i, roads.worth(1, i), oracle.worth(1, i));
            for (int j = 0; j < 6; j++) {
                due("load " + i + " " + j, roads.load(i, j), oracle.load(i, j));
                due("basic " + i + " " + j, roads.basic(i, j), oracle.basic(i, j));
                due("surplus " + i + " " + j, roads.surplus(i, j), oracle.surplus(i, j));
                due("rise " + i + " " + j, roads.rise(i, j), oracle.rise(i, j));
                for (int k = -2; k < 12; k++) {
                    due("loop " + i + " " + j + " " + k, roads.loop(i, j, k), oracle.loop(i, j, k));
                }
            }
        }
        for (int manner = 0; manner < 3; manner++) {
            due("enters " + manner, roads.enters(manner), oracle.enters(manner));
        }
    }
}
