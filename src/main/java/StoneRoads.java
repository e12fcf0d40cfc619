import java.util.Arrays;

/**
 * Quarries, works and the roads between them: plans of loads that are started by a rule, bettered
 * step by step along loops and proved by worths. README.md says how to use it.
 */
public final class StoneRoads {
    public static final int NONE = -1, BAD = -2, STATE = -3, FULL = -4;
    public static final long NO = Long.MIN_VALUE;

    /** The host's refusals. */
    private static final int NOTHING = -11, CAST = -12, PLACE = -13, SIZE = -14;
    /** Answered where a thing that is looked for isn't there. */
    private static final int NOT_ANY = -5;
    /** A FAULT at place p is told as this less p. */
    private static final int FAULT_FROM = -10;
    /** JUDGED rows that end too early are told as this and how many were looked at. */
    private static final int ENDED_EARLY = 100;
    /** An own mark for "no CELL", never answered. */
    private static final int NO_CELL = -1;
    /** Above whatever a CELL costs, or has as its LOAD: what the search for a least one begins with. */
    private static final int ABOVE_ALL = 1000000;

    private static final int SITES = 5;
    /** SOURCES or SINKS at most: a SPARE one comes behind all others. */
    private static final int WIDE = SITES + 1;
    private static final int CELLS = WIDE * WIDE;
    private static final int MOST_STONES = 99, MOST_TOLL = 9, MOST_BASE = 99, MOST_LOAD = 99;
    private static final int FIRST_BASE = 10;
    private static final int PLAIN = 0, TOLLED = 1, STEEP = 2, SHUT = 3;
    private static final int SHUT_COST = 1000;

    private static final int QUARRY_SIDE = 0, WORK_SIDE = 1;
    private static final int CORNER = 0, LEAST = 1, REGRET = 2;
    private static final int STEEPEST = 0, FIRST = 1, DEAREST = 2;
    private static final int MOST_STEPS = 100;
    private static final int MOST_RISE = 99;
    private static final int FIT_BASES = 31;
    private static final int ODDS_PARTS = 10, ODDS_STRIDE = 10;

    private static final int MOST_SEEN = 5, MOST_ROWS = 8;
    private static final int STONE_MORE = 0, WANTS_MORE = 1, ROAD_SHUT = 2, TOLL_GONE = 3;
    private static final int MOST_TEXT = 100, MOST_SIGN = 127, MOST_CLAUSES = 12;
    private static final int TAPES = 6, MOST_ITEMS = 60;
    private static final int EMPTY = -1, BYTES = 0, SHORTS = 1, INTS = 2, LONGS = 3, BOOLEANS = 4;

    private final State now = new State();
    private final State kept = new State();
    private boolean isKept = false;
    private final SetUp text = new SetUp();
    private final Tape[] tapes = new Tape[TAPES];
    /** What is only asked is tried on these two, so that it changes nothing. */
    private final Ground trialGround = new Ground();
    private final Plan trial = new Plan();

    public StoneRoads() {
        for (int t = 0; t < TAPES; t++) {
            tapes[t] = new Tape();
        }
    }

    // ---- quarries, works, roads

    public int quarry(int stones, int toll) {
        if (!isUpTo(stones, MOST_STONES) || !isUpTo(toll, MOST_TOLL)) {
            return BAD;
        }
        return now.addSite(QUARRY_SIDE, stones, toll);
    }

    public int work(int wants, int fee) {
        if (!isUpTo(wants, MOST_STONES) || !isUpTo(fee, MOST_TOLL)) {
            return BAD;
        }
        return now.addSite(WORK_SIDE, wants, fee);
    }

    public int renew(int side, int k, int what, int v) {
        if (!now.ground.isSite(side, k) || !isUpTo(what, 1)) {
            return NONE;
        }
        if (!isUpTo(v, what == 0 ? MOST_STONES : MOST_TOLL)) {
            return BAD;
        }
        return now.changeSite(side, k, what, v);
    }

    public int road(int i, int j, int kind, int base) {
        if (!now.ground.isRoad(i, j)) {
            return NONE;
        }
        if (!isUpTo(kind, SHUT) || !isUpTo(base, MOST_BASE)) {
            return BAD;
        }
        return now.changeRoad(i, j, kind, base);
    }

    public int of(int side, int k, int what) {
        if (!now.ground.isSite(side, k) || !isUpTo(what, 1)) {
            return NONE;
        }
        return now.ground.row(side, what)[k];
    }

    public int roadOf(int i, int j, int what) {
        if (!now.ground.isRoad(i, j)) {
            return NONE;
        }
        switch (what) {
            case 0: return now.ground.kinds[roadAt(i, j)];
            case 1: return now.ground.bases[roadAt(i, j)];
            case 2: return now.ground.costOf(i, j);
            default: return NONE;
        }
    }

    public int feed(int sign) {
        if (!isUpTo(sign, MOST_SIGN)) {
            return BAD;
        }
        return text.add(sign);
    }

    public int read() {
        int fault = text.findFault();
        text.size = 0;
        if (fault >= 0) {
            return FAULT_FROM - fault;
        }
        int done = 0;
        for (int c = 0; c < text.clauses; c++) {
            if (text.perform(c, now) >= 0) {
                done++;
            }
        }
        return done;
    }

    // ---- the plan

    public int start(int rule) {
        if (!isUpTo(rule, REGRET)) {
            return BAD;
        }
        if (!now.ground.hasBothSides()) {
            return STATE;
        }
        now.plan.startOn(now.ground, rule);
        return now.plan.total();
    }

    public int step(int manner, int n) {
        if (!isUpTo(manner, DEAREST) || !isUpTo(n, MOST_STEPS)) {
            return BAD;
        }
        if (!now.plan.made) {
            return STATE;
        }
        return now.plan.stepOften(manner, n);
    }

    public int load(int i, int j) {
        if (!now.plan.made) {
            return STATE;
        }
        if (!now.plan.isCell(i, j)) {
            return NONE;
        }
        return now.plan.loads[cellAt(i, j)];
    }

    public int basic(int i, int j) {
        if (!now.plan.made) {
            return STATE;
        }
        if (!now.plan.isCell(i, j)) {
            return NONE;
        }
        return now.plan.basics[cellAt(i, j)] ? 1 : 0;
    }

    public long worth(int side, int k) {
        Plan plan = now.plan;
        if (!plan.made || k < 0) {
            return NO;
        }
        if (side == QUARRY_SIDE && k < plan.sources) {
            return plan.sourceWorths[k];
        }
        if (side == WORK_SIDE && k < plan.sinks) {
            return plan.sinkWorths[k];
        }
        return NO;
    }

    public long surplus(int i, int j) {
        if (!now.plan.made || !now.plan.isCell(i, j)) {
            return NO;
        }
        return now.plan.surplusAt(i, j);
    }

    public int loop(int i, int j, int k) {
        Plan plan = now.plan;
        if (!plan.made) {
            return STATE;
        }
        if (!plan.isCell(i, j)) {
            return NONE;
        }
        if (plan.basics[cellAt(i, j)]) {
            return BAD;
        }
        Loop way = plan.way;
        way.follow(cellAt(i, j), plan.basics);
        if (k == -1) {
            return way.size;
        }
        if (k == -2) {
            return way.turnOf(plan.loads);
        }
        return k >= 0 && k < way.size ? cellTold(way.cells[k]) : NONE;
    }

    public int enters(int manner) {
        if (!isUpTo(manner, DEAREST)) {
            return BAD;
        }
        if (!now.plan.made) {
            return STATE;
        }
        int cell = now.plan.findEntering(manner);
        return cell == NO_CELL ? NOT_ANY : cellTold(cell);
    }

    public int told(int what) {
        Plan plan = now.plan;
        if (!plan.made) {
            return STATE;
        }
        switch (what) {
            case 0: return plan.total();
            case 1: return plan.steps;
            case 2: return plan.isProved() ? 1 : 0;
            case 3: return plan.keptZeros();
            case 4: return plan.freeCells(0);
            case 5: return plan.freeCells(-1);
            case 6: return plan.sources;
            case 7: return plan.sinks;
            default: return NONE;
        }
    }

    public int trace(int k, int what) {
        Plan plan = now.plan;
        if (!plan.made) {
            return STATE;
        }
        if (k < 0 || k >= plan.steps) {
            return NONE;
        }
        switch (what) {
            case 0: return cellTold(plan.entered[k]);
            case 1: return cellTold(plan.gone[k]);
            case 2: return plan.turned[k];
            default: return NONE;
        }
    }

    // ---- the best

    public int best(int rule, int manner, int what) {
        if (!isUpTo(rule, REGRET) || !isUpTo(manner, DEAREST)) {
            return BAD;
        }
        if (!isUpTo(what, 1)) {
            return NONE;
        }
        trialGround.copyFrom(now.ground);
        if (!tryBest(rule, manner)) {
            return NOT_ANY;
        }
        return what == 0 ? trial.total() : trial.steps;
    }

    public int cheapest(int what) {
        if (!isUpTo(what, 1)) {
            return NONE;
        }
        if (!now.ground.hasBothSides()) {
            return NOT_ANY;
        }
        return what == 0 ? cheapestStart() : fewestSteps();
    }

    public long more(int quarry, int work) {
        if (!now.ground.isRoad(quarry, work)) {
            return NO;
        }
        trialGround.copyFrom(now.ground);
        if (!tryTheBest()) {
            return NO;
        }
        long before = trial.total();
        trialGround.stones[quarry]++;
        trialGround.wants[work]++;
        return tryTheBest() ? trial.total() - before : NO;
    }

    public int rise(int i, int j) {
        if (!now.ground.isRoad(i, j)) {
            return NONE;
        }
        Plan plan = now.plan;
        if (!plan.made || !plan.isProved() || !plan.basics[cellAt(i, j)]) {
            return STATE;
        }
        trial.copyFrom(plan);
        for (int r = 0; r < MOST_RISE; r++) {
            trial.costs[cellAt(i, j)]++;
            trial.reckonWorths();
            if (!trial.isProved()) {
                return r;
            }
        }
        return MOST_RISE;
    }

    public int missed(int what) {
        if (!isUpTo(what, 1)) {
            return NONE;
        }
        int most = NOT_ANY;
        int found = NOT_ANY;
        for (int i = 0; i < now.ground.quarries; i++) {
            for (int j = 0; j < now.ground.works; j++) {
                trialGround.copyFrom(now.ground);
                if (trialGround.shutRoad(i, j) && tryTheBest() && trial.total() > most) {
                    most = trial.total();
                    found = 10 * i + j;
                }
            }
        }
        return what == 0 ? found : most;
    }

    // ---- seen, odds

    public int see(int i, int j, int n) {
        if (i == -1) {
            return now.seen.drop();
        }
        if (!now.ground.isRoad(i, j)) {
            return NONE;
        }
        return isUpTo(n, MOST_LOAD) ? now.seen.add(cellAt(i, j), n) : BAD;
    }

    public int fits(int i, int j, int what) {
        if (!now.ground.isRoad(i, j) || !isUpTo(what, 1)) {
            return NONE;
        }
        trialGround.copyFrom(now.ground);
        int many = 0;
        int least = NOT_ANY;
        for (int base = 0; base < FIT_BASES; base++) {
            trialGround.bases[roadAt(i, j)] = base;
            if (tryTheBest() && now.seen.firstOther(trial.loads) == NOT_ANY) {
                many++;
                least = least == NOT_ANY ? base : least;
            }
        }
        return what == 0 ? many : least;
    }

    public long odds(int i, int j, int part) {
        if (!now.ground.isRoad(i, j) || !isUpTo(part, 1)) {
            return NO;
        }
        trialGround.copyFrom(now.ground);
        int many = 0;
        for (int n = 0; n < ODDS_PARTS; n++) {
            trialGround.bases[roadAt(i, j)] = n * ODDS_STRIDE;
            if (tryTheBest() && trial.loads[cellAt(i, j)] > 0) {
                many++;
            }
        }
        return fractionPart(many, ODDS_PARTS, part);
    }

    public long mean(int part) {
        if (!now.plan.made || !isUpTo(part, 1)) {
            return NO;
        }
        return fractionPart(now.plan.total(), now.plan.allLoads(), part);
    }

    // ---- orders, books

    public int order(int what, int n) {
        if (what == -1) {
            return now.orders.drop();
        }
        return isOrder(what, n) ? now.orders.add(what, n) : NONE;
    }

    public int ends(int what) {
        if (!isUpTo(what, 2)) {
            return NONE;
        }
        trialGround.copyFrom(now.ground);
        for (int r = 0; r < now.orders.size; r++) {
            trialGround.happen(now.orders.firsts[r], now.orders.seconds[r]);
        }
        if (what == 0) {
            return tryTheBest() ? trial.total() : NOT_ANY;
        }
        int over = trialGround.allStones() - trialGround.allWants();
        return Math.max(0, what == 1 ? over : -over);
    }

    public int book(int i, int j, int n) {
        if (i == -1) {
            return now.books.drop();
        }
        if (!now.ground.isRoad(i, j)) {
            return NONE;
        }
        return isUpTo(n, MOST_LOAD) ? now.books.add(cellAt(i, j), n) : BAD;
    }

    public int looked() {
        return now.plan.made ? now.books.firstOther(now.plan.loads) : STATE;
    }

    // ---- judging, the image, tapes

    public int judge(int tape, int i) {
        if (!isTape(tape)) {
            return NONE;
        }
        if (!now.plan.made) {
            return STATE;
        }
        Tape row = tapes[tape];
        if (row.sort != LONGS && row.sort != EMPTY) {
            return CAST;
        }
        return now.plan.judgeRow(row, i);
    }

    public int image() {
        kept.copyFrom(now);
        isKept = true;
        return now.ground.quarries;
    }

    public int undo() {
        if (!isKept) {
            return STATE;
        }
        now.copyFrom(kept);
        return now.ground.quarries;
    }

    public int count(int what) {
        switch (what) {
            case 0: return now.ground.quarries;
            case 1: return now.ground.works;
            case 2: return now.ground.shutRoads();
            case 3: return now.seen.size;
            case 4: return now.orders.size;
            case 5: return now.books.size;
            case 6: return text.size;
            case 7: return now.plan.made ? 1 : 0;
            default: return BAD;
        }
    }

    public int tape(int tape, int sort, int n) {
        if (!isTape(tape)) {
            return NONE;
        }
        if (sort == EMPTY) {
            tapes[tape].become(EMPTY, 0);
            return 1;
        }
        if (!isUpTo(sort, BOOLEANS) || n > MOST_ITEMS) {
            return BAD;
        }
        if (n < 0) {
            return SIZE;
        }
        tapes[tape].become(sort, n);
        return 1;
    }

    public int item(int tape, int i, long v) {
        if (!isTape(tape)) {
            return NONE;
        }
        Tape row = tapes[tape];
        if (row.sort == EMPTY) {
            return NOTHING;
        }
        if (!row.hasPlace(i)) {
            return PLACE;
        }
        row.items[i] = row.fitted(v);
        return 1;
    }

    public long peek(int tape, int i) {
        if (!isTape(tape) || !tapes[tape].hasPlace(i)) {
            return NO;
        }
        return tapes[tape].items[i];
    }

    public int shift(int tape, int i, int other, int j, int n) {
        if (!isTape(tape) || !isTape(other)) {
            return NONE;
        }
        Tape from = tapes[tape];
        Tape to = tapes[other];
        if (from.sort == EMPTY || to.sort == EMPTY) {
            return NOTHING;
        }
        if (from.sort != to.sort) {
            return CAST;
        }
        if (!from.hasRun(i, n) || !to.hasRun(j, n)) {
            return PLACE;
        }
        System.arraycopy(from.items, i, to.items, j, n);
        return n;
    }

    // ---- what several calls need

    private static boolean isUpTo(int n, int most) {
        return n >= 0 && n <= most;
    }

    private static boolean isTape(int tape) {
        return tape >= 0 && tape < TAPES;
    }

    private static int roadAt(int i, int j) {
        return i * SITES + j;
    }

    private static int cellAt(int i, int j) {
        return i * WIDE + j;
    }

    private static int cellTold(int cell) {
        return 10 * (cell / WIDE) + cell % WIDE;
    }

    /** Tries a BEST on the trial ground; whether there is one. */
    private boolean tryBest(int rule, int manner) {
        if (!trialGround.hasBothSides()) {
            return false;
        }
        trial.startOn(trialGround, rule);
        trial.stepOften(manner, MOST_STEPS);
        return trial.isProved();
    }

    private boolean tryTheBest() {
        return tryBest(LEAST, FIRST);
    }

    private int cheapestStart() {
        int found = NOT_ANY;
        int least = 0;
        for (int rule = CORNER; rule <= REGRET; rule++) {
            trial.startOn(now.ground, rule);
            int total = trial.total();
            if (found == NOT_ANY || total < least) {
                found = rule;
                least = total;
            }
        }
        return found;
    }

    private int fewestSteps() {
        trialGround.copyFrom(now.ground);
        int found = NOT_ANY;
        int least = 0;
        for (int rule = CORNER; rule <= REGRET; rule++) {
            for (int manner = STEEPEST; manner <= DEAREST; manner++) {
                if (tryBest(rule, manner) && (found == NOT_ANY || trial.steps < least)) {
                    found = 10 * rule + manner;
                    least = trial.steps;
                }
            }
        }
        return found;
    }

    private boolean isOrder(int what, int n) {
        switch (what) {
            case STONE_MORE:
            case TOLL_GONE: return now.ground.isSite(QUARRY_SIDE, n);
            case WANTS_MORE: return now.ground.isSite(WORK_SIDE, n);
            case ROAD_SHUT: return n >= 0 && now.ground.isRoad(n / 10, n % 10);
            default: return false;
        }
    }

    /** Part 0 above, 1 below the line, in lowest terms; NO, if 0 is below the line. */
    private static long fractionPart(int above, int below, int part) {
        int common = commonDivisor(above, below);
        if (below <= 0 || common <= 0) {
            return NO;
        }
        return (part == 0 ? above : below) / common;
    }

    /** Of two numbers that aren't below 0. */
    private static int commonDivisor(int a, int b) {
        // Two rounds at least halve both, so that 100 are more than an int ever needs.
        for (int round = 0; round < 100 && b != 0; round++) {
            int rest = a % b;
            a = b;
            b = rest;
        }
        return a;
    }

    /** QUARRIES, WORKS and ROADS. A ROAD that isn't there yet is as it will be at first. */
    private static final class Ground {
        int quarries = 0;
        int works = 0;
        final int[] stones = new int[SITES];
        final int[] tolls = new int[SITES];
        final int[] wants = new int[SITES];
        final int[] fees = new int[SITES];
        final int[] kinds = new int[SITES * SITES];
        final int[] bases = new int[SITES * SITES];

        Ground() {
            Arrays.fill(bases, FIRST_BASE);
        }

        void copyFrom(Ground other) {
            quarries = other.quarries;
            works = other.works;
            System.arraycopy(other.stones, 0, stones, 0, SITES);
            System.arraycopy(other.tolls, 0, tolls, 0, SITES);
            System.arraycopy(other.wants, 0, wants, 0, SITES);
            System.arraycopy(other.fees, 0, fees, 0, SITES);
            System.arraycopy(other.kinds, 0, kinds, 0, SITES * SITES);
            System.arraycopy(other.bases, 0, bases, 0, SITES * SITES);
        }

        boolean hasBothSides() {
            return quarries > 0 && works > 0;
        }

        boolean isSite(int side, int k) {
            if (side == QUARRY_SIDE) {
                return k >= 0 && k < quarries;
            }
            return side == WORK_SIDE && k >= 0 && k < works;
        }

        boolean isRoad(int i, int j) {
            return i >= 0 && i < quarries && j >= 0 && j < works;
        }

        int[] row(int side, int what) {
            if (side == QUARRY_SIDE) {
                return what == 0 ? stones : tolls;
            }
            return what == 0 ? wants : fees;
        }

        /** What a CELL costs; where there is no ROAD, it goes from or to the SPARE one. */
        int costOf(int i, int j) {
            if (!isRoad(i, j)) {
                return 0;
            }
            int plain = bases[roadAt(i, j)];
            int tolled = plain + tolls[i];
            switch (kinds[roadAt(i, j)]) {
                case PLAIN: return plain;
                case TOLLED: return tolled;
                case STEEP: return 2 * tolled + fees[j];
                default: return SHUT_COST;
            }
        }

        int allStones() {
            int all = 0;
            for (int i = 0; i < quarries; i++) {
                all += stones[i];
            }
            return all;
        }

        int allWants() {
            int all = 0;
            for (int j = 0; j < works; j++) {
                all += wants[j];
            }
            return all;
        }

        /** Whether it wasn't SHUT already. */
        boolean shutRoad(int i, int j) {
            if (!isRoad(i, j) || kinds[roadAt(i, j)] == SHUT) {
                return false;
            }
            kinds[roadAt(i, j)] = SHUT;
            return true;
        }

        int shutRoads() {
            int many = 0;
            for (int i = 0; i < quarries; i++) {
                for (int j = 0; j < works; j++) {
                    many += kinds[roadAt(i, j)] == SHUT ? 1 : 0;
                }
            }
            return many;
        }

        /** A row of the ORDER happens; what it names was there when it was told, and still is. */
        void happen(int what, int n) {
            if (what == STONE_MORE && isSite(QUARRY_SIDE, n)) {
                stones[n] = Math.min(MOST_STONES, stones[n] + 1);
            } else if (what == WANTS_MORE && isSite(WORK_SIDE, n)) {
                wants[n] = Math.min(MOST_STONES, wants[n] + 1);
            } else if (what == ROAD_SHUT) {
                shutRoad(n / 10, n % 10);
            } else if (what == TOLL_GONE && isSite(QUARRY_SIDE, n)) {
                tolls[n] = 0;
            }
        }
    }

    /** A PLAN, its WORTHS and its STEPS. */
    private static final class Plan {
        boolean made = false;
        int sources = 0;
        int sinks = 0;
        int steps = 0;
        final int[] costs = new int[CELLS];
        final int[] loads = new int[CELLS];
        final boolean[] basics = new boolean[CELLS];
        final int[] sourceWorths = new int[WIDE];
        final int[] sinkWorths = new int[WIDE];
        final int[] entered = new int[MOST_STEPS];
        final int[] gone = new int[MOST_STEPS];
        final int[] turned = new int[MOST_STEPS];
        private final boolean[] sourceKnown = new boolean[WIDE];
        private final boolean[] sinkKnown = new boolean[WIDE];
        private final Opening opening = new Opening();
        /** The LOOP asked for last; the next one takes its place. */
        final Loop way = new Loop();

        void copyFrom(Plan other) {
            made = other.made;
            sources = other.sources;
            sinks = other.sinks;
            steps = other.steps;
            System.arraycopy(other.costs, 0, costs, 0, CELLS);
            System.arraycopy(other.loads, 0, loads, 0, CELLS);
            System.arraycopy(other.basics, 0, basics, 0, CELLS);
            System.arraycopy(other.sourceWorths, 0, sourceWorths, 0, WIDE);
            System.arraycopy(other.sinkWorths, 0, sinkWorths, 0, WIDE);
            System.arraycopy(other.entered, 0, entered, 0, MOST_STEPS);
            System.arraycopy(other.gone, 0, gone, 0, MOST_STEPS);
            System.arraycopy(other.turned, 0, turned, 0, MOST_STEPS);
        }

        boolean isCell(int i, int j) {
            return i >= 0 && i < sources && j >= 0 && j < sinks;
        }

        /** For a ground that has both sides. */
        void startOn(Ground ground, int rule) {
            opening.openAll(ground);
            layCells(ground);
            // Each pick closes one of both sides, so that no start needs more picks.
            for (int pick = 0; pick < sources + sinks && opening.openSinks > 0; pick++) {
                opening.pickBy(rule, costs);
                int cell = cellAt(opening.source, opening.sink);
                basics[cell] = true;
                loads[cell] = opening.takeLesser();
                opening.closeOne();
            }
            made = true;
            reckonWorths();
        }

        private void layCells(Ground ground) {
            sources = opening.sources;
            sinks = opening.sinks;
            steps = 0;
            for (int cell = 0; cell < CELLS; cell++) {
                loads[cell] = 0;
                basics[cell] = false;
            }
            for (int i = 0; i < sources; i++) {
                for (int j = 0; j < sinks; j++) {
                    costs[cellAt(i, j)] = ground.costOf(i, j);
                }
            }
        }

        void reckonWorths() {
            for (int k = 0; k < WIDE; k++) {
                sourceKnown[k] = false;
                sinkKnown[k] = false;
            }
            sourceWorths[0] = 0;
            sourceKnown[0] = true;
            // BASIC CELLS join all of both sides, so that each round comes to know one more.
            for (int round = 0; round < sources + sinks; round++) {
                if (!spreadWorths()) {
                    return;
                }
            }
        }

        private boolean spreadWorths() {
            boolean isMoreKnown = false;
            for (int cell = 0; cell < CELLS; cell++) {
                int i = cell / WIDE;
                int j = cell % WIDE;
                if (!basics[cell] || sourceKnown[i] == sinkKnown[j]) {
                    continue;
                }
                if (sourceKnown[i]) {
                    sinkWorths[j] = costs[cell] - sourceWorths[i];
                } else {
                    sourceWorths[i] = costs[cell] - sinkWorths[j];
                }
                sourceKnown[i] = true;
                sinkKnown[j] = true;
                isMoreKnown = true;
            }
            return isMoreKnown;
        }

        int surplusAt(int i, int j) {
            return costs[cellAt(i, j)] - sourceWorths[i] - sinkWorths[j];
        }

        boolean isProved() {
            return findEntering(FIRST) == NO_CELL;
        }

        int findEntering(int manner) {
            int found = NO_CELL;
            int least = 0;
            for (int i = 0; i < sources; i++) {
                for (int j = 0; j < sinks; j++) {
                    if (surplusAt(i, j) >= 0) {
                        continue;
                    }
                    // FIRST: all weigh the same, and of several the first is found.
                    int weight = manner == FIRST ? 0 : surplusAt(i, j);
                    if (manner == DEAREST) {
                        way.follow(cellAt(i, j), basics);
                        weight *= way.turnOf(loads);
                    }
                    if (found == NO_CELL || weight < least) {
                        found = cellAt(i, j);
                        least = weight;
                    }
                }
            }
            return found;
        }

        /** How many STEPS there were, of n at most. */
        int stepOften(int manner, int n) {
            for (int done = 0; done < n; done++) {
                int cell = findEntering(manner);
                if (cell == NO_CELL || steps >= MOST_STEPS) {
                    return done;
                }
                way.follow(cell, basics);
                turnWay(cell);
                reckonWorths();
            }
            return n;
        }

        /** This CELL, whose LOOP was followed last, ENTERS; for fewer than 100 STEPS so far. */
        private void turnWay(int cell) {
            int turn = way.turnOf(loads);
            int leaving = way.findLeaving(loads, turn);
            way.turnLoads(loads, turn);
            basics[cell] = true;
            basics[leaving] = false;
            entered[steps] = cell;
            gone[steps] = leaving;
            turned[steps] = turn;
            steps++;
        }

        int total() {
            int all = 0;
            for (int i = 0; i < sources; i++) {
                for (int j = 0; j < sinks; j++) {
                    all += loads[cellAt(i, j)] * costs[cellAt(i, j)];
                }
            }
            return all;
        }

        int allLoads() {
            int all = 0;
            for (int i = 0; i < sources; i++) {
                for (int j = 0; j < sinks; j++) {
                    all += loads[cellAt(i, j)];
                }
            }
            return all;
        }

        int keptZeros() {
            int many = 0;
            for (int i = 0; i < sources; i++) {
                for (int j = 0; j < sinks; j++) {
                    many += basics[cellAt(i, j)] && loads[cellAt(i, j)] == 0 ? 1 : 0;
                }
            }
            return many;
        }

        /** How many CELLS that aren't BASIC have a SURPLUS of this sign (-1, 0, 1). */
        int freeCells(int sign) {
            int many = 0;
            for (int i = 0; i < sources; i++) {
                for (int j = 0; j < sinks; j++) {
                    boolean isSo = Integer.compare(surplusAt(i, j), 0) == sign;
                    many += isSo && !basics[cellAt(i, j)] ? 1 : 0;
                }
            }
            return many;
        }

        /** For a row of longs, or nothing, which ends ahead of all places. */
        int judgeRow(Tape row, int from) {
            int looked = 0;
            for (int i = 0; i < sources; i++) {
                for (int j = 0; j < sinks; j++) {
                    if (!row.hasRun(from, looked + 1)) {
                        return ENDED_EARLY + looked;
                    }
                    if (row.items[from + looked] != loads[cellAt(i, j)]) {
                        return looked;
                    }
                    looked++;
                }
            }
            return NOT_ANY;
        }
    }

    /** What is OPEN and LEFT while a PLAN is STARTED, and which CELL is PICKED. */
    private static final class Opening {
        int sources = 0;
        int sinks = 0;
        int openSources = 0;
        int openSinks = 0;
        int source = 0;
        int sink = 0;
        private final boolean[] sourceOpen = new boolean[WIDE];
        private final boolean[] sinkOpen = new boolean[WIDE];
        private final int[] sourceLeft = new int[WIDE];
        private final int[] sinkLeft = new int[WIDE];

        void openAll(Ground ground) {
            int over = ground.allStones() - ground.allWants();
            System.arraycopy(ground.stones, 0, sourceLeft, 0, SITES);
            System.arraycopy(ground.wants, 0, sinkLeft, 0, SITES);
            sourceLeft[ground.quarries] = Math.max(0, -over);
            sinkLeft[ground.works] = Math.max(0, over);
            sources = ground.quarries + (over < 0 ? 1 : 0);
            sinks = ground.works + (over > 0 ? 1 : 0);
            openSources = sources;
            openSinks = sinks;
            for (int k = 0; k < WIDE; k++) {
                sourceOpen[k] = k < sources;
                sinkOpen[k] = k < sinks;
            }
        }

        void pickBy(int rule, int[] costs) {
            switch (rule) {
                case CORNER: pickCorner(); break;
                case LEAST: pickLeast(costs); break;
                default: pickRegret(costs); break;
            }
        }

        private void pickCorner() {
            source = firstOf(sourceOpen);
            sink = firstOf(sinkOpen);
        }

        private static int firstOf(boolean[] open) {
            for (int k = 0; k < WIDE; k++) {
                if (open[k]) {
                    return k;
                }
            }
            return 0;
        }

        private void pickLeast(int[] costs) {
            int least = ABOVE_ALL;
            for (int i = 0; i < sources; i++) {
                for (int j = 0; j < sinks; j++) {
                    if (sourceOpen[i] && sinkOpen[j] && costs[cellAt(i, j)] < least) {
                        least = costs[cellAt(i, j)];
                        source = i;
                        sink = j;
                    }
                }
            }
        }

        private void pickRegret(int[] costs) {
            int most = -1;
            for (int i = 0; i < sources; i++) {
                int regret = sourceOpen[i] ? regretOf(costs, cellAt(i, 0), 1, sinkOpen, sinks) : -1;
                if (regret > most) {
                    most = regret;
                    source = i;
                    sink = cheapestOf(costs, cellAt(i, 0), 1, sinkOpen, sinks);
                }
            }
            for (int j = 0; j < sinks; j++) {
                int regret = sinkOpen[j] ? regretOf(costs, j, WIDE, sourceOpen, sources) : -1;
                if (regret > most) {
                    most = regret;
                    source = cheapestOf(costs, j, WIDE, sourceOpen, sources);
                    sink = j;
                }
            }
        }

        /** Of one SOURCE's or SINK's CELLS: the first one, the stride to the next, those OPEN. */
        private static int regretOf(int[] costs, int from, int stride, boolean[] open, int n) {
            int cheapest = ABOVE_ALL;
            int second = ABOVE_ALL;
            for (int k = 0; k < n; k++) {
                int cost = costs[from + k * stride];
                if (open[k] && cost < cheapest) {
                    second = cheapest;
                    cheapest = cost;
                } else if (open[k] && cost < second) {
                    second = cost;
                }
            }
            return second == ABOVE_ALL ? cheapest : second - cheapest;
        }

        private static int cheapestOf(int[] costs, int from, int stride, boolean[] open, int n) {
            int found = 0;
            int least = ABOVE_ALL;
            for (int k = 0; k < n; k++) {
                if (open[k] && costs[from + k * stride] < least) {
                    least = costs[from + k * stride];
                    found = k;
                }
            }
            return found;
        }

        int takeLesser() {
            int lesser = Math.min(sourceLeft[source], sinkLeft[sink]);
            sourceLeft[source] -= lesser;
            sinkLeft[sink] -= lesser;
            return lesser;
        }

        void closeOne() {
            if (sourceLeft[source] == 0 && openSources > 1) {
                sourceOpen[source] = false;
                openSources--;
            } else {
                sinkOpen[sink] = false;
                openSinks--;
            }
        }
    }

    /** The LOOP of one CELL: it, then BASIC ones. */
    private static final class Loop {
        int size = 0;
        /** The way goes through a SOURCE or a SINK once at most: no more CELLS than those. */
        final int[] cells = new int[2 * WIDE];
        private final int[] sourceNext = new int[WIDE];
        private final int[] sinkNext = new int[WIDE];

        /** For a CELL that isn't BASIC. */
        void follow(int cell, boolean[] basics) {
            int home = cell / WIDE;
            pointHome(home, basics);
            size = 0;
            add(cell);
            int sink = cell % WIDE;
            for (int turn = 0; turn < WIDE && sinkNext[sink] >= 0; turn++) {
                int source = sinkNext[sink];
                add(cellAt(source, sink));
                if (source == home || sourceNext[source] < 0) {
                    return;
                }
                sink = sourceNext[source];
                add(cellAt(source, sink));
            }
        }

        private void add(int cell) {
            if (size < cells.length) {
                cells[size] = cell;
                size++;
            }
        }

        /** Along BASIC CELLS each one is told which of the other side is next on the way home. */
        private void pointHome(int home, boolean[] basics) {
            for (int k = 0; k < WIDE; k++) {
                sourceNext[k] = -1;
                sinkNext[k] = -1;
            }
            boolean isMoreKnown = true;
            for (int round = 0; round < 2 * WIDE && isMoreKnown; round++) {
                isMoreKnown = false;
                for (int cell = 0; cell < CELLS; cell++) {
                    int i = cell / WIDE;
                    int j = cell % WIDE;
                    boolean isSourceKnown = i == home || sourceNext[i] >= 0;
                    if (!basics[cell] || isSourceKnown == (sinkNext[j] >= 0)) {
                        continue;
                    }
                    if (isSourceKnown) {
                        sinkNext[j] = i;
                    } else {
                        sourceNext[i] = j;
                    }
                    isMoreKnown = true;
                }
            }
        }

        int turnOf(int[] loads) {
            int turn = ABOVE_ALL;
            for (int k = 1; k < size; k += 2) {
                turn = Math.min(turn, loads[cells[k]]);
            }
            return turn;
        }

        /** The first in order of those of odd numbers that have just the TURN: there is one. */
        int findLeaving(int[] loads, int turn) {
            int first = cells[1];
            boolean isFound = false;
            for (int k = 1; k < size; k += 2) {
                if (loads[cells[k]] == turn && (!isFound || cells[k] < first)) {
                    first = cells[k];
                    isFound = true;
                }
            }
            return first;
        }

        void turnLoads(int[] loads, int turn) {
            for (int k = 0; k < size; k++) {
                loads[cells[k]] += k % 2 == 0 ? turn : -turn;
            }
        }
    }

    /** Rows of two numbers each, told by hand. */
    private static final class Rows {
        private final int most;
        int size = 0;
        final int[] firsts = new int[MOST_ROWS];
        final int[] seconds = new int[MOST_ROWS];

        Rows(int most) {
            this.most = Math.min(most, MOST_ROWS);
        }

        void copyFrom(Rows other) {
            size = other.size;
            System.arraycopy(other.firsts, 0, firsts, 0, MOST_ROWS);
            System.arraycopy(other.seconds, 0, seconds, 0, MOST_ROWS);
        }

        int drop() {
            size = 0;
            return 0;
        }

        int add(int first, int second) {
            if (size >= most) {
                return FULL;
            }
            firsts[size] = first;
            seconds[size] = second;
            size++;
            return size;
        }

        /** The first row of a CELL and its LOAD that is otherwise in these LOADS. */
        int firstOther(int[] loads) {
            for (int r = 0; r < size; r++) {
                if (loads[firsts[r]] != seconds[r]) {
                    return r;
                }
            }
            return NOT_ANY;
        }
    }

    /** All that THE IMAGE keeps. */
    private static final class State {
        final Ground ground = new Ground();
        final Plan plan = new Plan();
        final Rows seen = new Rows(MOST_SEEN);
        final Rows orders = new Rows(MOST_ROWS);
        final Rows books = new Rows(MOST_ROWS);

        void copyFrom(State other) {
            ground.copyFrom(other.ground);
            plan.copyFrom(other.plan);
            seen.copyFrom(other.seen);
            orders.copyFrom(other.orders);
            books.copyFrom(other.books);
        }

        /** A QUARRY or a WORK comes: its number. */
        int addSite(int side, int much, int dues) {
            int number = side == QUARRY_SIDE ? ground.quarries : ground.works;
            if (number >= SITES) {
                return FULL;
            }
            ground.row(side, 0)[number] = much;
            ground.row(side, 1)[number] = dues;
            if (side == QUARRY_SIDE) {
                ground.quarries++;
            } else {
                ground.works++;
            }
            plan.made = false;
            return number;
        }

        /** For a QUARRY or a WORK that is there: what it was. */
        int changeSite(int side, int k, int what, int v) {
            int[] row = ground.row(side, what);
            int was = row[k];
            row[k] = v;
            plan.made = false;
            return was;
        }

        int changeRoad(int i, int j, int kind, int base) {
            if (!ground.isRoad(i, j)) {
                return NONE;
            }
            int at = roadAt(i, j);
            int was = 100 * ground.kinds[at] + ground.bases[at];
            ground.kinds[at] = kind;
            ground.bases[at] = base;
            plan.made = false;
            return was;
        }
    }

    /** THE TEXT, and the CLAUSES found in it. */
    private static final class SetUp {
        int size = 0;
        int clauses = 0;
        private final char[] signs = new char[MOST_TEXT];
        private int at = 0;
        private final char[] letters = new char[MOST_CLAUSES];
        private final int[] firsts = new int[MOST_CLAUSES];
        private final int[] seconds = new int[MOST_CLAUSES];
        private final int[] kinds = new int[MOST_CLAUSES];
        private final int[] bases = new int[MOST_CLAUSES];

        int add(int sign) {
            if (size >= MOST_TEXT) {
                return FULL;
            }
            signs[size] = (char) sign;
            size++;
            return size;
        }

        /** Reads up to the FAULT: its place, -1 if there is none. */
        int findFault() {
            at = 0;
            clauses = 0;
            for (int c = 0; c < MOST_CLAUSES; c++) {
                if (!takeClause(c)) {
                    return at;
                }
                clauses = c + 1;
                if (at == size) {
                    return -1;
                }
                // Behind the last CLAUSE that may come a ; is a FAULT, too.
                if (clauses == MOST_CLAUSES || !take(';')) {
                    return at;
                }
            }
            return at;
        }

        /** What the CLAUSE, done, answers: below 0 if it is refused. */
        int perform(int c, State state) {
            if (c < 0 || c >= clauses) {
                return NONE;
            }
            if (letters[c] == 'q') {
                return state.addSite(QUARRY_SIDE, firsts[c], seconds[c]);
            }
            if (letters[c] == 'w') {
                return state.addSite(WORK_SIDE, firsts[c], seconds[c]);
            }
            return state.changeRoad(firsts[c], seconds[c], kinds[c], bases[c]);
        }

        private boolean takeClause(int c) {
            if (take('q')) {
                letters[c] = 'q';
                return takeSite(c);
            }
            if (take('w')) {
                letters[c] = 'w';
                return takeSite(c);
            }
            if (take('r')) {
                letters[c] = 'r';
                return takeRoad(c);
            }
            return false;
        }

        private boolean takeSite(int c) {
            firsts[c] = takeNumber();
            if (firsts[c] < 0 || !take(',')) {
                return false;
            }
            seconds[c] = takeDigit();
            return seconds[c] >= 0;
        }

        private boolean takeRoad(int c) {
            firsts[c] = takeDigit();
            if (firsts[c] < 0) {
                return false;
            }
            seconds[c] = takeDigit();
            if (seconds[c] < 0) {
                return false;
            }
            kinds[c] = takeKind();
            if (kinds[c] < 0) {
                return false;
            }
            bases[c] = takeNumber();
            return bases[c] >= 0;
        }

        private boolean take(char sign) {
            if (at >= size || signs[at] != sign) {
                return false;
            }
            at++;
            return true;
        }

        private int takeKind() {
            if (take('p')) {
                return PLAIN;
            }
            if (take('t')) {
                return TOLLED;
            }
            if (take('s')) {
                return STEEP;
            }
            return take('x') ? SHUT : -1;
        }

        /** A digit, -1 if none comes. */
        private int takeDigit() {
            if (at >= size || signs[at] < '0' || signs[at] > '9') {
                return -1;
            }
            int digit = signs[at] - '0';
            at++;
            return digit;
        }

        /** One or two digits, -1 if none comes. */
        private int takeNumber() {
            int first = takeDigit();
            if (first < 0) {
                return -1;
            }
            int second = takeDigit();
            return second < 0 ? first : 10 * first + second;
        }
    }

    /** A TAPE: its items are held as longs, each as its sort would hold it. */
    private static final class Tape {
        int sort = EMPTY;
        int size = 0;
        final long[] items = new long[MOST_ITEMS];

        void become(int newSort, int newSize) {
            sort = newSort;
            size = newSize;
            Arrays.fill(items, 0L);
        }

        boolean hasPlace(int i) {
            return i >= 0 && i < size;
        }

        /** Whether n places from i on are there; written so that no sum wraps around. */
        boolean hasRun(int i, int n) {
            return n >= 0 && i >= 0 && n <= size - i;
        }

        long fitted(long v) {
            switch (sort) {
                case BYTES: return (byte) v;
                case SHORTS: return (short) v;
                case INTS: return (int) v;
                case BOOLEANS: return v != 0 ? 1 : 0;
                default: return v;
            }
        }
    }
}
