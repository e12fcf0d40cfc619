import java.util.ArrayList;
import java.util.Collections;
import java.util.HashMap;
import java.util.List;
import java.util.Map;
import java.util.TreeMap;
import java.util.TreeSet;
import java.util.function.IntPredicate;
import java.util.regex.Matcher;
import java.util.regex.Pattern;

/** The document told a second time, by other means than the program's: slow, and as it reads. */
final class Oracle {
    static final int NONE = -1, BAD = -2, STATE = -3, FULL = -4;
    static final long NO = Long.MIN_VALUE;

    /** QUARRIES and WORKS as pairs, ROADS (KIND, BASE) by their told numbers. */
    static final class Land {
        final List<int[]> quarries = new ArrayList<>();
        final List<int[]> works = new ArrayList<>();
        final Map<Integer, int[]> roads = new HashMap<>();

        Land copy() {
            Land other = new Land();
            quarries.forEach(q -> other.quarries.add(q.clone()));
            works.forEach(w -> other.works.add(w.clone()));
            roads.forEach((n, r) -> other.roads.put(n, r.clone()));
            return other;
        }

        boolean isRoad(int i, int j) {
            return i >= 0 && i < quarries.size() && j >= 0 && j < works.size();
        }

        int[] road(int i, int j) {
            return roads.computeIfAbsent(10 * i + j, n -> new int[] {0, 10});
        }

        int cost(int i, int j) {
            int plain = road(i, j)[1];
            int tolled = plain + quarries.get(i)[1];
            int steep = 2 * tolled + works.get(j)[1];
            return new int[] {plain, tolled, steep, 1000}[road(i, j)[0]];
        }

        int sum(List<int[]> side) {
            return side.stream().mapToInt(x -> x[0]).sum();
        }
    }

    static final class Plan {
        final List<Integer> has = new ArrayList<>();
        final List<Integer> want = new ArrayList<>();
        final Map<Integer, Integer> cost = new TreeMap<>();
        final Map<Integer, Integer> load = new TreeMap<>();
        final TreeSet<Integer> basic = new TreeSet<>();
        final List<int[]> steps = new ArrayList<>();

        Plan copy() {
            Plan other = new Plan();
            other.has.addAll(has);
            other.want.addAll(want);
            other.cost.putAll(cost);
            other.load.putAll(load);
            other.basic.addAll(basic);
            steps.forEach(s -> other.steps.add(s.clone()));
            return other;
        }

        Plan(Land land, int rule) {
            land.quarries.forEach(q -> has.add(q[0]));
            land.works.forEach(w -> want.add(w[0]));
            int over = land.sum(land.quarries) - land.sum(land.works);
            if (over > 0) {
                want.add(over);
            }
            if (over < 0) {
                has.add(-over);
            }
            for (int i = 0; i < has.size(); i++) {
                for (int j = 0; j < want.size(); j++) {
                    cost.put(10 * i + j, land.isRoad(i, j) ? land.cost(i, j) : 0);
                    load.put(10 * i + j, 0);
                }
            }
            begin(rule);
        }

        private Plan() {
        }

        private void begin(int rule) {
            TreeSet<Integer> sources = new TreeSet<>();
            TreeSet<Integer> sinks = new TreeSet<>();
            for (int i = 0; i < has.size(); i++) {
                sources.add(i);
            }
            for (int j = 0; j < want.size(); j++) {
                sinks.add(j);
            }
            int[] hasLeft = has.stream().mapToInt(x -> x).toArray();
            int[] wantLeft = want.stream().mapToInt(x -> x).toArray();
            while (!sinks.isEmpty()) {
                int cell = pick(rule, sources, sinks);
                int i = cell / 10;
                int j = cell % 10;
                int lesser = Math.min(hasLeft[i], wantLeft[j]);
                basic.add(cell);
                load.put(cell, lesser);
                hasLeft[i] -= lesser;
                wantLeft[j] -= lesser;
                if (hasLeft[i] == 0 && sources.size() > 1) {
                    sources.remove(i);
                } else {
                    sinks.remove(j);
                }
            }
        }

        private int pick(int rule, TreeSet<Integer> sources, TreeSet<Integer> sinks) {
            List<List<Integer>> lines = new ArrayList<>();
            List<Integer> all = new ArrayList<>();
            for (int i : sources) {
                List<Integer> line = new ArrayList<>();
                sinks.forEach(j -> line.add(10 * i + j));
                lines.add(line);
                all.addAll(line);
            }
            if (rule == 0) {
                return all.get(0);
            }
            if (rule == 1) {
                return cheapest(all);
            }
            for (int j : sinks) {
                List<Integer> line = new ArrayList<>();
                sources.forEach(i -> line.add(10 * i + j));
                lines.add(line);
            }
            List<Integer> chosen = lines.get(0);
            for (List<Integer> line : lines) {
                if (regret(line) > regret(chosen)) {
                    chosen = line;
                }
            }
            return cheapest(chosen);
        }

        private int cheapest(List<Integer> cells) {
            return cells.stream().min((a, b) -> cost.get(a) - cost.get(b)).get();
        }

        private int regret(List<Integer> cells) {
            List<Integer> costs = new ArrayList<>();
            cells.forEach(c -> costs.add(cost.get(c)));
            Collections.sort(costs);
            return costs.size() == 1 ? costs.get(0) : costs.get(1) - costs.get(0);
        }

        boolean isCell(int i, int j) {
            return i >= 0 && i < has.size() && j >= 0 && j < want.size();
        }

        /** SOURCES by their numbers, SINKS by theirs and 100. */
        Map<Integer, Integer> worths() {
            Map<Integer, Integer> worths = new HashMap<>();
            worths.put(0, 0);
            spread(0, worths);
            return worths;
        }

        private void spread(int node, Map<Integer, Integer> worths) {
            for (int cell : basic) {
                int source = cell / 10;
                int sink = 100 + cell % 10;
                int other = node == source ? sink : source;
                if ((node == source || node == sink) && !worths.containsKey(other)) {
                    worths.put(other, cost.get(cell) - worths.get(node));
                    spread(other, worths);
                }
            }
        }

        Map<Integer, Integer> surpluses() {
            Map<Integer, Integer> worths = worths();
            Map<Integer, Integer> all = new TreeMap<>();
            cost.forEach((c, k) -> all.put(c, k - worths.get(c / 10) - worths.get(100 + c % 10)));
            return all;
        }

        boolean isProved() {
            return surpluses().values().stream().noneMatch(s -> s < 0);
        }

        List<Integer> loop(int cell) {
            List<Integer> way = new ArrayList<>();
            way.add(cell);
            if (!search(way, cell)) {
                throw new IllegalStateException("no loop");
            }
            return way;
        }

        /** Tries all that may come next, till one lies in the own SOURCE. */
        private boolean search(List<Integer> way, int cell) {
            int last = way.get(way.size() - 1);
            boolean isOdd = way.size() % 2 == 1;
            for (int next : basic) {
                boolean isNear = isOdd ? next % 10 == last % 10 : next / 10 == last / 10;
                if (!isNear || way.contains(next)) {
                    continue;
                }
                way.add(next);
                if (isOdd && next / 10 == cell / 10 || search(way, cell)) {
                    return true;
                }
                way.remove(way.size() - 1);
            }
            return false;
        }

        int turn(int cell) {
            List<Integer> way = loop(cell);
            int least = Integer.MAX_VALUE;
            for (int k = 1; k < way.size(); k += 2) {
                least = Math.min(least, load.get(way.get(k)));
            }
            return least;
        }

        int entering(int manner) {
            Map<Integer, Integer> surpluses = surpluses();
            int found = -5;
            long least = Long.MAX_VALUE;
            for (int cell : cost.keySet()) {
                int surplus = surpluses.get(cell);
                if (surplus >= 0) {
                    continue;
                }
                long weight = manner == 0 ? surplus : manner == 1 ? 0 : (long) surplus * turn(cell);
                if (weight < least) {
                    least = weight;
                    found = cell;
                }
            }
            return found;
        }

        int step(int manner, int n) {
            int done = 0;
            while (done < n && steps.size() < 100 && !isProved()) {
                int cell = entering(manner);
                List<Integer> way = loop(cell);
                int turn = turn(cell);
                TreeSet<Integer> least = new TreeSet<>();
                for (int k = 1; k < way.size(); k += 2) {
                    if (load.get(way.get(k)) == turn) {
                        least.add(way.get(k));
                    }
                }
                for (int k = 0; k < way.size(); k++) {
                    load.merge(way.get(k), k % 2 == 0 ? turn : -turn, Integer::sum);
                }
                basic.add(cell);
                basic.remove(least.first());
                steps.add(new int[] {cell, least.first(), turn});
                done++;
            }
            return done;
        }

        int total() {
            return load.keySet().stream().mapToInt(c -> load.get(c) * cost.get(c)).sum();
        }
    }

    /** All that THE IMAGE keeps. */
    static final class Kept {
        Land land = new Land();
        Plan plan = null;
        List<int[]> seen = new ArrayList<>();
        List<int[]> order = new ArrayList<>();
        List<int[]> book = new ArrayList<>();

        Kept copy() {
            Kept other = new Kept();
            other.land = land.copy();
            other.plan = plan == null ? null : plan.copy();
            other.seen.addAll(seen);
            other.order.addAll(order);
            other.book.addAll(book);
            return other;
        }
    }

    private static final Pattern SET_UP;

    static {
        String site = "[qw][0-9]{1,2},[0-9]";
        String road = "r[0-9]{2}[ptsx][0-9]{1,2}";
        String clause = "(" + site + "|" + road + ")";
        SET_UP = Pattern.compile(clause + "(;" + clause + "){0,11}");
    }

    private Kept now = new Kept();
    private Kept image = null;
    private String text = "";
    private final Object[] tapes = new Object[6];

    private static boolean in(int n, int least, int most) {
        return n >= least && n <= most;
    }

    /** BEST of a Land, null if there is none. */
    private static Plan best(Land land, int rule, int manner) {
        if (land.quarries.isEmpty() || land.works.isEmpty()) {
            return null;
        }
        Plan plan = new Plan(land, rule);
        plan.step(manner, 100);
        return plan.isProved() ? plan : null;
    }

    private static Plan best(Land land) {
        return best(land, 1, 1);
    }

    int quarry(int stones, int toll) {
        return add(now.land.quarries, stones, toll);
    }

    int work(int wants, int fee) {
        return add(now.land.works, wants, fee);
    }

    private int add(List<int[]> side, int much, int dues) {
        if (!in(much, 0, 99) || !in(dues, 0, 9)) {
            return BAD;
        }
        if (side.size() == 5) {
            return FULL;
        }
        side.add(new int[] {much, dues});
        now.plan = null;
        return side.size() - 1;
    }

    private int[] site(int side, int k) {
        if (!in(side, 0, 1)) {
            return null;
        }
        List<int[]> all = side == 0 ? now.land.quarries : now.land.works;
        return in(k, 0, all.size() - 1) ? all.get(k) : null;
    }

    int renew(int side, int k, int what, int v) {
        int[] site = site(side, k);
        if (site == null || !in(what, 0, 1)) {
            return NONE;
        }
        if (!in(v, 0, what == 0 ? 99 : 9)) {
            return BAD;
        }
        int was = site[what];
        site[what] = v;
        now.plan = null;
        return was;
    }

    int road(int i, int j, int kind, int base) {
        if (!now.land.isRoad(i, j)) {
            return NONE;
        }
        if (!in(kind, 0, 3) || !in(base, 0, 99)) {
            return BAD;
        }
        int[] road = now.land.road(i, j);
        int was = 100 * road[0] + road[1];
        road[0] = kind;
        road[1] = base;
        now.plan = null;
        return was;
    }

    int of(int side, int k, int what) {
        int[] site = site(side, k);
        return site == null || !in(what, 0, 1) ? NONE : site[what];
    }

    int roadOf(int i, int j, int what) {
        if (!now.land.isRoad(i, j) || !in(what, 0, 2)) {
            return NONE;
        }
        return what == 2 ? now.land.cost(i, j) : now.land.road(i, j)[what];
    }

    int feed(int sign) {
        if (!in(sign, 0, 127)) {
            return BAD;
        }
        if (text.length() == 100) {
            return FULL;
        }
        text += (char) sign;
        return text.length();
    }

    int read() {
        String all = text;
        text = "";
        if (!SET_UP.matcher(all).matches()) {
            return -10 - fault(all);
        }
        int done = 0;
        for (String clause : all.split(";")) {
            done += clause(clause) >= 0 ? 1 : 0;
        }
        return done;
    }

    private static int fault(String all) {
        for (int end = 1; end <= all.length(); end++) {
            Matcher matcher = SET_UP.matcher(all.substring(0, end));
            if (!matcher.matches() && !matcher.hitEnd()) {
                return end - 1;
            }
        }
        return all.length();
    }

    private int clause(String clause) {
        if (clause.charAt(0) == 'r') {
            int kind = "ptsx".indexOf(clause.charAt(3));
            return road(clause.charAt(1) - '0', clause.charAt(2) - '0', kind,
                    Integer.parseInt(clause.substring(4)));
        }
        String[] parts = clause.substring(1).split(",");
        int much = Integer.parseInt(parts[0]);
        int dues = Integer.parseInt(parts[1]);
        return clause.charAt(0) == 'q' ? quarry(much, dues) : work(much, dues);
    }

    int start(int rule) {
        if (!in(rule, 0, 2)) {
            return BAD;
        }
        if (now.land.quarries.isEmpty() || now.land.works.isEmpty()) {
            return STATE;
        }
        now.plan = new Plan(now.land, rule);
        return now.plan.total();
    }

    int step(int manner, int n) {
        if (!in(manner, 0, 2) || !in(n, 0, 100)) {
            return BAD;
        }
        return now.plan == null ? STATE : now.plan.step(manner, n);
    }

    int load(int i, int j) {
        if (now.plan == null) {
            return STATE;
        }
        return now.plan.isCell(i, j) ? now.plan.load.get(10 * i + j) : NONE;
    }

    int basic(int i, int j) {
        if (now.plan == null) {
            return STATE;
        }
        return !now.plan.isCell(i, j) ? NONE : now.plan.basic.contains(10 * i + j) ? 1 : 0;
    }

    long worth(int side, int k) {
        if (now.plan == null || !in(side, 0, 1)) {
            return NO;
        }
        int many = side == 0 ? now.plan.has.size() : now.plan.want.size();
        return in(k, 0, many - 1) ? now.plan.worths().get(100 * side + k) : NO;
    }

    long surplus(int i, int j) {
        if (now.plan == null || !now.plan.isCell(i, j)) {
            return NO;
        }
        return now.plan.surpluses().get(10 * i + j);
    }

    int loop(int i, int j, int k) {
        if (now.plan == null) {
            return STATE;
        }
        if (!now.plan.isCell(i, j)) {
            return NONE;
        }
        int cell = 10 * i + j;
        if (now.plan.basic.contains(cell)) {
            return BAD;
        }
        List<Integer> way = now.plan.loop(cell);
        if (k == -1) {
            return way.size();
        }
        if (k == -2) {
            return now.plan.turn(cell);
        }
        return in(k, 0, way.size() - 1) ? way.get(k) : NONE;
    }

    int enters(int manner) {
        if (!in(manner, 0, 2)) {
            return BAD;
        }
        return now.plan == null ? STATE : now.plan.entering(manner);
    }

    private int cells(IntPredicate isSo) {
        return (int) now.plan.cost.keySet().stream().filter(isSo::test).count();
    }

    int told(int what) {
        Plan plan = now.plan;
        if (plan == null) {
            return STATE;
        }
        Map<Integer, Integer> surpluses = plan.surpluses();
        switch (what) {
            case 0: return plan.total();
            case 1: return plan.steps.size();
            case 2: return plan.isProved() ? 1 : 0;
            case 3: return cells(c -> plan.basic.contains(c) && plan.load.get(c) == 0);
            case 4: return cells(c -> !plan.basic.contains(c) && surpluses.get(c) == 0);
            case 5: return cells(c -> surpluses.get(c) < 0);
            case 6: return plan.has.size();
            case 7: return plan.want.size();
            default: return NONE;
        }
    }

    int trace(int k, int what) {
        if (now.plan == null) {
            return STATE;
        }
        if (!in(k, 0, now.plan.steps.size() - 1) || !in(what, 0, 2)) {
            return NONE;
        }
        return now.plan.steps.get(k)[what];
    }

    int best(int rule, int manner, int what) {
        if (!in(rule, 0, 2) || !in(manner, 0, 2)) {
            return BAD;
        }
        if (!in(what, 0, 1)) {
            return NONE;
        }
        Plan plan = best(now.land, rule, manner);
        return plan == null ? -5 : what == 0 ? plan.total() : plan.steps.size();
    }

    int cheapest(int what) {
        if (!in(what, 0, 1)) {
            return NONE;
        }
        if (now.land.quarries.isEmpty() || now.land.works.isEmpty()) {
            return -5;
        }
        TreeMap<Integer, Integer> first = new TreeMap<>();
        for (int rule = 0; rule < 3; rule++) {
            if (what == 0) {
                first.putIfAbsent(new Plan(now.land, rule).total(), rule);
                continue;
            }
            for (int manner = 0; manner < 3; manner++) {
                Plan plan = best(now.land, rule, manner);
                if (plan != null) {
                    first.putIfAbsent(plan.steps.size(), 10 * rule + manner);
                }
            }
        }
        return first.isEmpty() ? -5 : first.firstEntry().getValue();
    }

    long more(int quarry, int work) {
        if (!now.land.isRoad(quarry, work)) {
            return NO;
        }
        Land land = now.land.copy();
        land.quarries.get(quarry)[0]++;
        land.works.get(work)[0]++;
        Plan before = best(now.land);
        Plan after = best(land);
        return before == null || after == null ? NO : after.total() - before.total();
    }

    int rise(int i, int j) {
        if (!now.land.isRoad(i, j)) {
            return NONE;
        }
        int cell = 10 * i + j;
        if (now.plan == null || !now.plan.isProved() || !now.plan.basic.contains(cell)) {
            return STATE;
        }
        for (int r = 99; r > 0; r--) {
            Plan plan = now.plan.copy();
            plan.cost.merge(cell, r, Integer::sum);
            if (plan.isProved()) {
                return r;
            }
        }
        return 0;
    }

    int missed(int what) {
        if (!in(what, 0, 1)) {
            return NONE;
        }
        int road = -5;
        int most = -5;
        for (int i = 0; i < now.land.quarries.size(); i++) {
            for (int j = 0; j < now.land.works.size(); j++) {
                Land land = now.land.copy();
                if (land.road(i, j)[0] == 3) {
                    continue;
                }
                land.road(i, j)[0] = 3;
                Plan plan = best(land);
                if (plan != null && plan.total() > most) {
                    most = plan.total();
                    road = 10 * i + j;
                }
            }
        }
        return what == 0 ? road : most;
    }

    private int tell(List<int[]> rows, int most, int i, int j, int n) {
        if (i == -1) {
            rows.clear();
            return 0;
        }
        if (!now.land.isRoad(i, j)) {
            return NONE;
        }
        if (!in(n, 0, 99)) {
            return BAD;
        }
        if (rows.size() == most) {
            return FULL;
        }
        rows.add(new int[] {10 * i + j, n});
        return rows.size();
    }

    int see(int i, int j, int n) {
        return tell(now.seen, 5, i, j, n);
    }

    int fits(int i, int j, int what) {
        if (!now.land.isRoad(i, j) || !in(what, 0, 1)) {
            return NONE;
        }
        List<Integer> bases = new ArrayList<>();
        for (int base = 0; base <= 30; base++) {
            Land land = now.land.copy();
            land.road(i, j)[1] = base;
            Plan plan = best(land);
            if (plan != null && now.seen.stream().allMatch(s -> plan.load.get(s[0]) == s[1])) {
                bases.add(base);
            }
        }
        return what == 0 ? bases.size() : bases.isEmpty() ? -5 : bases.get(0);
    }

    long odds(int i, int j, int part) {
        if (!now.land.isRoad(i, j) || !in(part, 0, 1)) {
            return NO;
        }
        int many = 0;
        for (int base = 0; base < 100; base += 10) {
            Land land = now.land.copy();
            land.road(i, j)[1] = base;
            Plan plan = best(land);
            many += plan != null && plan.load.get(10 * i + j) > 0 ? 1 : 0;
        }
        return lowest(many, 10)[part];
    }

    /** The fraction whose line has the least number below. */
    private static int[] lowest(int above, int below) {
        for (int d = 1; d < below; d++) {
            if ((long) above * d % below == 0) {
                return new int[] {(int) ((long) above * d / below), d};
            }
        }
        return new int[] {above, below};
    }

    long mean(int part) {
        if (now.plan == null || !in(part, 0, 1)) {
            return NO;
        }
        int all = now.plan.load.values().stream().mapToInt(x -> x).sum();
        return all == 0 ? NO : lowest(now.plan.total(), all)[part];
    }

    int order(int what, int n) {
        if (what == -1) {
            now.order.clear();
            return 0;
        }
        boolean isThere;
        switch (what) {
            case 0:
            case 3: isThere = site(0, n) != null; break;
            case 1: isThere = site(1, n) != null; break;
            case 2: isThere = n >= 0 && now.land.isRoad(n / 10, n % 10); break;
            default: isThere = false; break;
        }
        if (!isThere) {
            return NONE;
        }
        if (now.order.size() == 8) {
            return FULL;
        }
        now.order.add(new int[] {what, n});
        return now.order.size();
    }

    int ends(int what) {
        if (!in(what, 0, 2)) {
            return NONE;
        }
        Land land = now.land.copy();
        for (int[] row : now.order) {
            int n = row[1];
            switch (row[0]) {
                case 0: land.quarries.get(n)[0] = Math.min(99, land.quarries.get(n)[0] + 1); break;
                case 1: land.works.get(n)[0] = Math.min(99, land.works.get(n)[0] + 1); break;
                case 2: land.road(n / 10, n % 10)[0] = 3; break;
                default: land.quarries.get(n)[1] = 0; break;
            }
        }
        int stones = land.sum(land.quarries);
        int wants = land.sum(land.works);
        if (what == 0) {
            Plan plan = best(land);
            return plan == null ? -5 : plan.total();
        }
        return what == 1 ? Math.max(stones - wants, 0) : Math.max(wants - stones, 0);
    }

    int book(int i, int j, int n) {
        return tell(now.book, 8, i, j, n);
    }

    int looked() {
        if (now.plan == null) {
            return STATE;
        }
        for (int r = 0; r < now.book.size(); r++) {
            if (now.plan.load.get(now.book.get(r)[0]) != now.book.get(r)[1]) {
                return r;
            }
        }
        return -5;
    }

    int judge(int tape, int i) {
        if (!in(tape, 0, 5)) {
            return NONE;
        }
        if (now.plan == null) {
            return STATE;
        }
        if (tapes[tape] == null) {
            return 100;
        }
        if (!(tapes[tape] instanceof long[])) {
            return CAST;
        }
        long[] row = (long[]) tapes[tape];
        int looked = 0;
        for (int cell : now.plan.load.keySet()) {
            if (i < 0 || (long) i + looked >= row.length) {
                return 100 + looked;
            }
            if (row[i + looked] != now.plan.load.get(cell)) {
                return looked;
            }
            looked++;
        }
        return -5;
    }

    static final int CAST = -12;

    int image() {
        image = now.copy();
        return now.land.quarries.size();
    }

    int undo() {
        if (image == null) {
            return STATE;
        }
        now = image.copy();
        return now.land.quarries.size();
    }

    int count(int what) {
        switch (what) {
            case 0: return now.land.quarries.size();
            case 1: return now.land.works.size();
            case 2: return (int) now.land.roads.values().stream().filter(r -> r[0] == 3).count();
            case 3: return now.seen.size();
            case 4: return now.order.size();
            case 5: return now.book.size();
            case 6: return text.length();
            case 7: return now.plan == null ? 0 : 1;
            default: return BAD;
        }
    }

    int tape(int tape, int sort, int n) {
        if (!in(tape, 0, 5)) {
            return NONE;
        }
        if (!in(sort, -1, 4)) {
            return BAD;
        }
        if (sort == -1) {
            tapes[tape] = null;
            return 1;
        }
        if (n > 60) {
            return BAD;
        }
        if (n < 0) {
            return -14;
        }
        switch (sort) {
            case 0: tapes[tape] = new byte[n]; break;
            case 1: tapes[tape] = new short[n]; break;
            case 2: tapes[tape] = new int[n]; break;
            case 3: tapes[tape] = new long[n]; break;
            default: tapes[tape] = new boolean[n]; break;
        }
        return 1;
    }

    int item(int tape, int i, long v) {
        if (!in(tape, 0, 5)) {
            return NONE;
        }
        Object row = tapes[tape];
        if (row == null) {
            return -11;
        }
        if (!in(i, 0, java.lang.reflect.Array.getLength(row) - 1)) {
            return -13;
        }
        if (row instanceof byte[]) {
            ((byte[]) row)[i] = (byte) v;
        } else if (row instanceof short[]) {
            ((short[]) row)[i] = (short) v;
        } else if (row instanceof int[]) {
            ((int[]) row)[i] = (int) v;
        } else if (row instanceof long[]) {
            ((long[]) row)[i] = v;
        } else {
            ((boolean[]) row)[i] = v != 0;
        }
        return 1;
    }

    long peek(int tape, int i) {
        if (!in(tape, 0, 5) || tapes[tape] == null) {
            return NO;
        }
        Object row = tapes[tape];
        if (!in(i, 0, java.lang.reflect.Array.getLength(row) - 1)) {
            return NO;
        }
        if (row instanceof boolean[]) {
            return ((boolean[]) row)[i] ? 1 : 0;
        }
        return java.lang.reflect.Array.getLong(row, i);
    }

    int shift(int tape, int i, int other, int j, int n) {
        if (!in(tape, 0, 5) || !in(other, 0, 5)) {
            return NONE;
        }
        if (tapes[tape] == null || tapes[other] == null) {
            return -11;
        }
        try {
            System.arraycopy(tapes[tape], i, tapes[other], j, n);
        } catch (ArrayStoreException unlike) {
            return CAST;
        } catch (IndexOutOfBoundsException outside) {
            return -13;
        }
        return n;
    }

    /** The least a plan may cost, found by sending stone after stone the cheapest way; -1: no ground. */
    int leastCost() {
        Land land = now.land;
        if (land.quarries.isEmpty() || land.works.isEmpty()) {
            return -1;
        }
        int m = land.quarries.size();
        int n = land.works.size();
        int[] has = land.quarries.stream().mapToInt(q -> q[0]).toArray();
        int[] want = land.works.stream().mapToInt(w -> w[0]).toArray();
        int[][] sent = new int[m][n];
        int total = 0;
        for (int stone = Math.min(land.sum(land.quarries), land.sum(land.works)); stone > 0; stone--) {
            total += sendOne(land, has, want, sent);
        }
        return total;
    }

    /** Bellman and Ford's way over QUARRIES (0 ..) and WORKS (m ..). */
    private static int sendOne(Land land, int[] has, int[] want, int[][] sent) {
        int m = has.length;
        int n = want.length;
        int far = 1 << 28;
        int[] dist = new int[m + n];
        int[] from = new int[m + n];
        for (int v = 0; v < m + n; v++) {
            dist[v] = v < m && has[v] > 0 ? 0 : far;
            from[v] = -1;
        }
        for (int round = 0; round < m + n; round++) {
            for (int i = 0; i < m; i++) {
                for (int j = 0; j < n; j++) {
                    if (dist[i] < far && dist[i] + land.cost(i, j) < dist[m + j]) {
                        dist[m + j] = dist[i] + land.cost(i, j);
                        from[m + j] = i;
                    }
                    if (sent[i][j] > 0 && dist[m + j] < far && dist[m + j] - land.cost(i, j) < dist[i]) {
                        dist[i] = dist[m + j] - land.cost(i, j);
                        from[i] = m + j;
                    }
                }
            }
        }
        int end = -1;
        for (int j = 0; j < n; j++) {
            if (want[j] > 0 && (end < 0 || dist[m + j] < dist[end])) {
                end = m + j;
            }
        }
        want[end - m]--;
        int v = end;
        while (from[v] >= 0) {
            int u = from[v];
            if (u < m) {
                sent[u][v - m]++;
            } else {
                sent[v][u - m]--;
            }
            v = u;
        }
        has[v]--;
        return dist[end];
    }
}
