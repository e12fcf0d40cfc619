import java.util.function.Supplier;

/**
 * The edges that the document names, promise by promise: the last number that is fine, the first
 * that isn't, those far off (where a cast, a sum or a product might wrap around); which of several
 * refusals comes; that what is refused, and what is asked, changes nothing.
 *
 * <p>No object is used for more than 512 calls: what has changed is seen by a twin that was made alike.
 */
public final class EdgeTest {
    private static final int NONE = StoneRoads.NONE, BAD = StoneRoads.BAD;
    private static final int STATE = StoneRoads.STATE, FULL = StoneRoads.FULL;
    private static final long NO = StoneRoads.NO;
    private static final int NOTHING = -11, CAST = -12, PLACE = -13, SIZE = -14;

    private static final Checks C = new Checks();
    private static final Supplier<StoneRoads> EMPTY = StoneRoads::new;

    private interface Call {
        long on(StoneRoads x);
    }

    public static void main(String[] args) {
        quarry();
        work();
        renew();
        road();
        of();
        roadOf();
        feed();
        start();
        step();
        cells();
        worth();
        loop();
        enters();
        told();
        trace();
        best();
        more();
        rise();
        missed();
        see();
        fits();
        odds();
        mean();
        order();
        ends();
        book();
        looked();
        judge();
        undo();
        count();
        tape();
        item();
        peek();
        shift();
        asked();
        C.finish();
    }

    // ---- objects to ask

    /** Two QUARRIES, two WORKS, a SPARE WORK; something everywhere, but no PLAN. */
    private static StoneRoads laid() {
        StoneRoads x = Checks.made(PlanTest.SPARE_WORK);
        x.see(0, 0, 10);
        x.order(1, 0);
        x.book(0, 0, 10);
        x.book(1, 1, 7);
        x.feed('q');
        x.tape(0, 3, 6);
        x.item(0, 0, 10);
        x.item(0, 5, -9);
        x.tape(1, 0, 3);
        x.tape(2, 3, 0);
        x.image();
        x.order(0, 1);
        return x;
    }

    /** As laid, with a PLAN that has had a STEP and is PROVED. */
    private static StoneRoads planned() {
        StoneRoads x = laid();
        x.start(1);
        x.step(0, 100);
        return x;
    }

    /** As laid, with a PLAN that is not PROVED. */
    private static StoneRoads unproved() {
        StoneRoads x = laid();
        x.start(1);
        return x;
    }

    private static StoneRoads withSpareQuarry() {
        StoneRoads x = Checks.made(PlanTest.SPARE_QUARRY);
        x.start(0);
        return x;
    }

    /** STONES and WANTS are even: there is no SPARE one. */
    private static StoneRoads even() {
        StoneRoads x = Checks.made("q4,0;q6,0;w5,0;w5,0");
        x.start(0);
        return x;
    }

    /** All that has a bound is full; a PLAN is there. */
    private static StoneRoads full() {
        StoneRoads x = Checks.made("q9,0;q9,0;q9,0;q9,0;q9,0;w5,0;w5,0;w5,0;w5,0;w5,0");
        for (int n = 0; n < 8; n++) {
            x.see(0, 0, 5);
            x.order(0, 0);
            x.book(0, 0, 5);
        }
        for (int n = 0; n < 100; n++) {
            x.feed('q');
        }
        x.start(0);
        return x;
    }

    // ---- how they are asked

    /** Numbers that aren't from least to most: the next ones, and some far off. */
    private static int[] outside(int least, int most) {
        return new int[] {least - 1, most + 1, least - 2, most + 2, most + (1 << 8), most + (1 << 16),
            least - (1 << 16), Integer.MIN_VALUE, Integer.MIN_VALUE + 1, Integer.MAX_VALUE - 1, Integer.MAX_VALUE};
    }

    /** The answer is due, and the object is as a twin that wasn't asked. */
    private static void still(String what, Supplier<StoneRoads> maker, Call call, long due) {
        StoneRoads x = maker.get();
        C.due(what, call.on(x), due);
        C.due(what + ", changes nothing", all(x), all(maker.get()));
    }

    /** All that can be told from an object, in less than 300 calls; it is undone at last. */
    private static String all(StoneRoads x) {
        StringBuilder all = new StringBuilder();
        for (int what = 0; what < 8; what++) {
            all.append(x.count(what)).append(' ').append(x.told(what)).append(' ');
        }
        tellSites(x, all);
        if (x.count(7) == 1) {
            all.append(Checks.loads(x)).append(' ').append(Checks.worths(x));
            for (int k = 0; k < 3 * x.told(1); k++) {
                all.append(' ').append(x.trace(k / 3, k % 3));
            }
        }
        all.append(" / ").append(x.looked()).append(' ').append(x.fits(0, 0, 0));
        for (int what = 0; what < 3; what++) {
            all.append(' ').append(x.ends(what));
        }
        for (int n = 0; n < 24; n++) {
            all.append(' ').append(x.peek(n / 4, n % 4 + n % 4 / 3 * 2));
        }
        all.append(" / ").append(x.undo()).append(' ').append(x.count(4)).append(' ').append(x.count(7));
        return all.toString();
    }

    private static void tellSites(StoneRoads x, StringBuilder all) {
        for (int n = 0; n < 20; n++) {
            all.append(x.of(n % 2, n / 4, n / 2 % 2)).append(' ');
        }
        for (int i = 0; i < x.count(0); i++) {
            for (int j = 0; j < x.count(1); j++) {
                all.append(x.roadOf(i, j, 0)).append(' ').append(x.roadOf(i, j, 1)).append(' ');
            }
        }
    }

    // ---- quarries, works, roads

    private static void quarry() {
        for (int n : outside(0, 99)) {
            still("2: stones " + n, EdgeTest::planned, x -> x.quarry(n, 0), BAD);
        }
        for (int n : outside(0, 9)) {
            still("2: toll " + n, EdgeTest::planned, x -> x.quarry(0, n), BAD);
        }
        still("2: a sixth one", EdgeTest::full, x -> x.quarry(0, 0), FULL);
        still("2: BAD stones ahead of FULL", EdgeTest::full, x -> x.quarry(100, 0), BAD);
        still("2: BAD toll ahead of FULL", EdgeTest::full, x -> x.quarry(0, 10), BAD);
        StoneRoads x = new StoneRoads();
        for (int n = 0; n < 5; n++) {
            C.due("2: number " + n, x.quarry(n % 2 == 0 ? 0 : 99, n % 2 == 0 ? 9 : 0), n);
            C.due("2: how many", x.count(0), n + 1);
            C.due("2: STONES", x.of(0, n, 0), n % 2 == 0 ? 0 : 99);
            C.due("2: TOLL", x.of(0, n, 1), n % 2 == 0 ? 9 : 0);
        }
    }

    private static void work() {
        for (int n : outside(0, 99)) {
            still("3: wants " + n, EdgeTest::planned, x -> x.work(n, 0), BAD);
        }
        for (int n : outside(0, 9)) {
            still("3: fee " + n, EdgeTest::planned, x -> x.work(0, n), BAD);
        }
        still("3: a sixth one", EdgeTest::full, x -> x.work(0, 0), FULL);
        still("3: BAD wants ahead of FULL", EdgeTest::full, x -> x.work(-1, 0), BAD);
        still("3: BAD fee ahead of FULL", EdgeTest::full, x -> x.work(0, -1), BAD);
        StoneRoads x = new StoneRoads();
        for (int n = 0; n < 5; n++) {
            C.due("3: number " + n, x.work(n % 2 == 0 ? 0 : 99, n % 2 == 0 ? 9 : 0), n);
            C.due("3: how many", x.count(1), n + 1);
            C.due("3: WANTS", x.of(1, n, 0), n % 2 == 0 ? 0 : 99);
            C.due("3: FEE", x.of(1, n, 1), n % 2 == 0 ? 9 : 0);
        }
    }

    private static void renew() {
        for (int n : outside(0, 1)) {
            still("4: side " + n, EdgeTest::planned, x -> x.renew(n, 0, 0, 1), NONE);
            still("4: k " + n, EdgeTest::planned, x -> x.renew(0, n, 0, 1), NONE);
            still("4: k of a WORK " + n, EdgeTest::planned, x -> x.renew(1, n, 1, 1), NONE);
            still("4: what " + n, EdgeTest::planned, x -> x.renew(0, 0, n, 1), NONE);
            still("4: what of a WORK " + n, EdgeTest::planned, x -> x.renew(1, 0, n, 1), NONE);
            still("4: side ahead of BAD " + n, EdgeTest::planned, x -> x.renew(n, 0, 0, -1), NONE);
            still("4: k ahead of BAD " + n, EdgeTest::planned, x -> x.renew(1, n, 1, 10), NONE);
            still("4: what ahead of BAD " + n, EdgeTest::planned, x -> x.renew(0, 0, n, 100), NONE);
        }
        for (int n = 0; n < 4; n++) {
            int side = n / 2;
            int what = n % 2;
            int most = what == 0 ? 99 : 9;
            for (int v : outside(0, most)) {
                still("4: v " + v, EdgeTest::planned, x -> x.renew(side, 1, what, v), BAD);
            }
            StoneRoads x = planned();
            int was = x.of(side, 1, what);
            C.due("4: the most", x.renew(side, 1, what, most), was);
            C.due("4: 0", x.renew(side, 1, what, 0), most);
            C.due("4: 0 again", x.renew(side, 1, what, 0), 0);
            C.due("4: now", x.of(side, 1, what), 0);
        }
    }

    private static void road() {
        for (int n : outside(0, 1)) {
            still("5: i " + n, EdgeTest::planned, x -> x.road(n, 0, 0, 10), NONE);
            still("5: j " + n, EdgeTest::planned, x -> x.road(0, n, 0, 10), NONE);
            still("5: NONE ahead of BAD " + n, EdgeTest::planned, x -> x.road(n, 0, 4, 100), NONE);
            still("5: NONE ahead of BAD, too " + n, EdgeTest::planned, x -> x.road(1, n, -1, -1), NONE);
        }
        for (int n : outside(0, 3)) {
            still("5: kind " + n, EdgeTest::planned, x -> x.road(1, 1, n, 10), BAD);
        }
        for (int n : outside(0, 99)) {
            still("5: base " + n, EdgeTest::planned, x -> x.road(1, 1, 0, n), BAD);
        }
        still("5: from a SPARE QUARRY", EdgeTest::withSpareQuarry, x -> x.road(3, 0, 0, 10), NONE);
        StoneRoads x = full();
        C.due("5: the last one", x.road(4, 4, 3, 99), 10);
        C.due("5: the most there are", x.road(4, 4, 0, 0), 399);
        C.due("5: the least there are", x.road(4, 4, 0, 0), 0);
        C.due("5: its neighbour", x.roadOf(4, 3, 1), 10);
    }

    private static void of() {
        for (int n : outside(0, 1)) {
            still("6: side " + n, EdgeTest::planned, x -> x.of(n, 0, 0), NONE);
            still("6: k " + n, EdgeTest::planned, x -> x.of(0, n, 0), NONE);
            still("6: k of a WORK " + n, EdgeTest::planned, x -> x.of(1, n, 1), NONE);
            still("6: what " + n, EdgeTest::planned, x -> x.of(1, 1, n), NONE);
        }
        C.due("6: a SPARE WORK is none", planned().of(1, 2, 0), NONE);
        C.due("6: a SPARE QUARRY is none", withSpareQuarry().of(0, 3, 0), NONE);
    }

    private static void roadOf() {
        for (int n : outside(0, 1)) {
            still("7: i " + n, EdgeTest::planned, x -> x.roadOf(n, 0, 0), NONE);
            still("7: j " + n, EdgeTest::planned, x -> x.roadOf(0, n, 2), NONE);
        }
        for (int n : outside(0, 2)) {
            still("7: what " + n, EdgeTest::planned, x -> x.roadOf(1, 1, n), NONE);
        }
        StoneRoads x = Checks.made("q1,3;q1,8;w1,5;w1,2");
        int[][] due = {{7, 7, 7, 7}, {10, 10, 15, 15}, {25, 22, 35, 32}, {1000, 1000, 1000, 1000}};
        for (int n = 0; n < 16; n++) {
            x.road(n / 2 % 2, n % 2, n / 4, 7);
            C.due("7: KIND " + n / 4 + " of ROAD " + n % 4, x.roadOf(n / 2 % 2, n % 2, 2), due[n / 4][n % 4]);
        }
    }

    private static void feed() {
        for (int n : outside(0, 127)) {
            still("8: " + n, EdgeTest::planned, x -> x.feed(n), BAD);
            still("8: BAD ahead of FULL " + n, EdgeTest::full, x -> x.feed(n), BAD);
        }
        still("8: the 101st", EdgeTest::full, x -> x.feed(0), FULL);
        C.due("8: the first", new StoneRoads().feed(127), 1);
    }

    // ---- the plan

    private static void start() {
        for (int n : outside(0, 2)) {
            still("10: rule " + n, EdgeTest::planned, x -> x.start(n), BAD);
            still("10: BAD ahead of STATE " + n, EMPTY, x -> x.start(n), BAD);
        }
        for (int n = 0; n < 3; n++) {
            int rule = n;
            still("10: nothing at all " + n, EMPTY, x -> x.start(rule), STATE);
            still("10: no WORK " + n, () -> Checks.made("q1,1"), x -> x.start(rule), STATE);
            still("10: no QUARRY " + n, () -> Checks.made("w1,1"), x -> x.start(rule), STATE);
            C.due("10: just one of both " + n, Checks.made("q1,1;w1,1").start(n), 10);
            C.due("10: it has nothing " + n, Checks.made("q0,1;w0,1").start(n), 0);
        }
    }

    private static void step() {
        for (int n : outside(0, 2)) {
            still("11: manner " + n, EdgeTest::unproved, x -> x.step(n, 1), BAD);
            still("11: BAD ahead of STATE " + n, EdgeTest::laid, x -> x.step(n, 1), BAD);
        }
        for (int n : outside(0, 100)) {
            still("11: n " + n, EdgeTest::unproved, x -> x.step(0, n), BAD);
            still("11: BAD ahead of STATE, too " + n, EdgeTest::laid, x -> x.step(0, n), BAD);
        }
        still("11: no PLAN", EdgeTest::laid, x -> x.step(0, 0), STATE);
        still("11: none at most", EdgeTest::unproved, x -> x.step(0, 0), 0);
        for (int n = 0; n < 3; n++) {
            int manner = n;
            still("11: it is PROVED " + n, EdgeTest::planned, x -> x.step(manner, 100), 0);
            C.due("11: 1 at most " + n, unproved().step(n, 1), 1);
            C.due("11: 100 at most " + n, unproved().step(n, 100), 1);
        }
    }

    /** Promises 12, 13 and 15: where CELLS end. */
    private static void cells() {
        cellsEnd("a SPARE WORK", EdgeTest::planned, 2, 3);
        cellsEnd("a SPARE QUARRY", EdgeTest::withSpareQuarry, 4, 2);
        cellsEnd("none", EdgeTest::even, 2, 2);
        cellsEnd("all there can be", EdgeTest::full, 5, 6);
        for (int n : outside(0, 2)) {
            still("12: no PLAN ahead of NONE " + n, EdgeTest::laid, x -> x.load(n, n), STATE);
            still("13: no PLAN ahead of NONE " + n, EdgeTest::laid, x -> x.basic(n, n), STATE);
            still("15: no PLAN " + n, EdgeTest::laid, x -> x.surplus(n, n), NO);
        }
        still("12: no PLAN", EdgeTest::laid, x -> x.load(0, 0), STATE);
        still("13: no PLAN", EdgeTest::laid, x -> x.basic(0, 0), STATE);
        still("15: no PLAN", EdgeTest::laid, x -> x.surplus(0, 0), NO);
        C.due("12: one STONE more than all want", spareOf("q6,0;w5,0").load(0, 1), 1);
        C.due("12: one STONE less", spareOf("q5,0;w6,0").load(1, 0), 1);
        C.due("12: just as many", spareOf("q6,0;w6,0").load(0, 1), NONE);
        C.due("12: just as many, too", spareOf("q6,0;w6,0").load(1, 0), NONE);
        C.due("12: nobody wants anything", spareOf("q99,0;w0,0").load(0, 1), 99);
        C.due("12: nobody has anything", spareOf("q0,0;w99,0").load(1, 0), 99);
    }

    private static StoneRoads spareOf(String text) {
        StoneRoads x = Checks.made(text);
        x.start(0);
        return x;
    }

    private static void cellsEnd(String spare, Supplier<StoneRoads> maker, int sources, int sinks) {
        for (int n : outside(0, sources - 1)) {
            still("12: SPARE is " + spare + ", i " + n, maker, x -> x.load(n, 0), NONE);
            still("13: SPARE is " + spare + ", i " + n, maker, x -> x.basic(n, 0), NONE);
            still("15: SPARE is " + spare + ", i " + n, maker, x -> x.surplus(n, 0), NO);
            still("16: SPARE is " + spare + ", i " + n, maker, x -> x.loop(n, 0, -1), NONE);
        }
        for (int n : outside(0, sinks - 1)) {
            still("12: SPARE is " + spare + ", j " + n, maker, x -> x.load(0, n), NONE);
            still("13: SPARE is " + spare + ", j " + n, maker, x -> x.basic(0, n), NONE);
            still("15: SPARE is " + spare + ", j " + n, maker, x -> x.surplus(0, n), NO);
            still("16: SPARE is " + spare + ", j " + n, maker, x -> x.loop(0, n, -1), NONE);
        }
        StoneRoads x = maker.get();
        C.due("18: SOURCES", x.told(6), sources);
        C.due("18: SINKS", x.told(7), sinks);
        int basic = 0;
        for (int n = 0; n < sources * sinks; n++) {
            int is = x.basic(n / sinks, n % sinks);
            C.due("13: 1 or 0", is == 0 || is == 1 ? 1 : 0, 1);
            C.due("12: a LOAD", x.load(n / sinks, n % sinks) >= 0 ? 1 : 0, 1);
            C.due("12: 0, if it isn't BASIC", is == 1 ? 0 : x.load(n / sinks, n % sinks), 0);
            C.due("15: 0, if it is BASIC", is == 1 ? x.surplus(n / sinks, n % sinks) : 0, 0);
            basic += is;
        }
        C.due("13: all of both but one", basic, sources + sinks - 1);
    }

    private static void worth() {
        for (int n : outside(0, 1)) {
            still("14: side " + n, EdgeTest::planned, x -> x.worth(n, 0), NO);
            still("14: k " + n, EdgeTest::planned, x -> x.worth(0, n), NO);
        }
        for (int n : outside(0, 2)) {
            still("14: k of a SINK " + n, EdgeTest::planned, x -> x.worth(1, n), NO);
        }
        for (int n : outside(0, 3)) {
            still("14: k of a SOURCE " + n, EdgeTest::withSpareQuarry, x -> x.worth(0, n), NO);
        }
        still("14: no PLAN", EdgeTest::laid, x -> x.worth(0, 0), NO);
        C.due("14: SOURCE 0", planned().worth(0, 0), 0);
        C.due("14: a SPARE SINK", planned().worth(1, 2), -7);
        C.due("14: a SPARE SOURCE", withSpareQuarry().worth(0, 3), -7);
        StoneRoads x = Checks.made("q1,0;w1,0;r00x0");
        x.start(0);
        C.due("14: 1000, if it is SHUT", x.worth(1, 0), 1000);
    }

    private static void loop() {
        for (int n : outside(-2, 3)) {
            still("16: k " + n, EdgeTest::unproved, x -> x.loop(1, 2, n), NONE);
            still("16: BASIC ahead of k " + n, EdgeTest::unproved, x -> x.loop(0, 2, n), BAD);
            still("16: no CELL ahead of k " + n, EdgeTest::unproved, x -> x.loop(1, 3, n), NONE);
            still("16: no PLAN ahead of all " + n, EdgeTest::laid, x -> x.loop(9, 9, n), STATE);
        }
        for (int n = -2; n < 4; n++) {
            int k = n;
            still("16: BASIC, and k " + n, EdgeTest::unproved, x -> x.loop(0, 0, k), BAD);
        }
        still("16: TURN", EdgeTest::unproved, x -> x.loop(1, 2, -2), 5);
        still("16: how many", EdgeTest::unproved, x -> x.loop(1, 2, -1), 4);
        still("16: the last", EdgeTest::unproved, x -> x.loop(1, 2, 3), 10);
        still("16: no PLAN", EdgeTest::laid, x -> x.loop(0, 1, 0), STATE);
    }

    private static void enters() {
        for (int n : outside(0, 2)) {
            still("17: manner " + n, EdgeTest::unproved, x -> x.enters(n), BAD);
            still("17: BAD ahead of STATE " + n, EdgeTest::laid, x -> x.enters(n), BAD);
        }
        for (int n = 0; n < 3; n++) {
            int manner = n;
            still("17: no PLAN " + n, EdgeTest::laid, x -> x.enters(manner), STATE);
            still("17: none " + n, EdgeTest::planned, x -> x.enters(manner), -5);
            still("17: one " + n, EdgeTest::unproved, x -> x.enters(manner), 12);
        }
    }

    private static void told() {
        for (int n : outside(0, 7)) {
            still("18: what " + n, EdgeTest::planned, x -> x.told(n), NONE);
            still("18: STATE ahead of NONE " + n, EdgeTest::laid, x -> x.told(n), STATE);
        }
        for (int n = 0; n < 8; n++) {
            int what = n;
            still("18: no PLAN " + n, EdgeTest::laid, x -> x.told(what), STATE);
        }
    }

    private static void trace() {
        for (int n : outside(0, 0)) {
            still("19: k " + n, EdgeTest::planned, x -> x.trace(n, 0), NONE);
        }
        for (int n : outside(0, 2)) {
            still("19: what " + n, EdgeTest::planned, x -> x.trace(0, n), NONE);
            still("19: STATE ahead of NONE " + n, EdgeTest::laid, x -> x.trace(0, n), STATE);
        }
        still("19: no PLAN", EdgeTest::laid, x -> x.trace(0, 0), STATE);
        still("19: no STEP", EdgeTest::unproved, x -> x.trace(0, 0), NONE);
    }

    // ---- the best

    private static void best() {
        for (int n : outside(0, 2)) {
            still("20: rule " + n, EdgeTest::unproved, x -> x.best(n, 0, 0), BAD);
            still("20: manner " + n, EdgeTest::unproved, x -> x.best(0, n, 0), BAD);
            still("20: BAD ahead of NONE " + n, EdgeTest::unproved, x -> x.best(n, 0, 2), BAD);
            still("20: BAD ahead of NONE, too " + n, EdgeTest::unproved, x -> x.best(0, n, -1), BAD);
            still("20: BAD, and nothing is there " + n, EMPTY, x -> x.best(0, n, 0), BAD);
        }
        for (int n : outside(0, 1)) {
            still("20: what " + n, EdgeTest::unproved, x -> x.best(0, 0, n), NONE);
            still("20: NONE, and nothing is there " + n, EMPTY, x -> x.best(0, 0, n), NONE);
            still("21: what " + n, EdgeTest::unproved, x -> x.cheapest(n), NONE);
            still("21: NONE, and nothing is there " + n, EMPTY, x -> x.cheapest(n), NONE);
        }
        for (int n = 0; n < 2; n++) {
            int what = n;
            still("20: nothing is there " + n, EMPTY, x -> x.best(2, 2, what), -5);
            still("20: no WORK " + n, () -> Checks.made("q1,1"), x -> x.best(1, 1, what), -5);
            still("20: no QUARRY " + n, () -> Checks.made("w1,1"), x -> x.best(1, 1, what), -5);
            still("21: nothing is there " + n, EMPTY, x -> x.cheapest(what), -5);
            still("21: no WORK " + n, () -> Checks.made("q1,1"), x -> x.cheapest(what), -5);
            still("21: no QUARRY " + n, () -> Checks.made("w1,1"), x -> x.cheapest(what), -5);
            still("21: all need as much " + n, () -> Checks.made("q0,0;w0,0"), x -> x.cheapest(what), 0);
        }
        for (int n = 0; n < 9; n++) {
            int k = n;
            still("20: BEST " + n, EdgeTest::unproved, x -> x.best(k / 3, k % 3, 0), 134);
            still("20: of nothing " + n, () -> Checks.made("q0,0;w0,0"), x -> x.best(k / 3, k % 3, 0), 0);
            still("20: its STEPS " + n, () -> Checks.made("q0,0;w0,0"), x -> x.best(k / 3, k % 3, 1), 0);
        }
    }

    private static void more() {
        for (int n : outside(0, 1)) {
            still("22: quarry " + n, EdgeTest::unproved, x -> x.more(n, 0), NO);
            still("22: work " + n, EdgeTest::unproved, x -> x.more(0, n), NO);
        }
        still("22: a SPARE QUARRY", EdgeTest::withSpareQuarry, x -> x.more(3, 0), NO);
        still("22: no QUARRY", () -> Checks.made("w1,1"), x -> x.more(0, 0), NO);
        still("22: no WORK", () -> Checks.made("q1,1"), x -> x.more(0, 0), NO);
        still("22: a STONE more", EdgeTest::unproved, x -> x.more(0, 0), 4);
        still("22: 0 and 0 are 1 and 1", () -> Checks.made("q0,0;w0,0;r00x9"), x -> x.more(0, 0), 1000);
        still("22: 99 and 99 are 100 and 100", () -> Checks.made("q99,0;w99,0;r00x9"), x -> x.more(0, 0), 1000);
    }

    private static void rise() {
        for (int n : outside(0, 1)) {
            still("23: i " + n, EdgeTest::planned, x -> x.rise(n, 0), NONE);
            still("23: j " + n, EdgeTest::planned, x -> x.rise(0, n), NONE);
            still("23: NONE ahead of STATE " + n, EdgeTest::laid, x -> x.rise(n, 0), NONE);
            still("23: NONE ahead of STATE, too " + n, EdgeTest::unproved, x -> x.rise(0, n), NONE);
        }
        still("23: from a SPARE QUARRY", EdgeTest::withSpareQuarry, x -> x.rise(3, 1), NONE);
        still("23: no PLAN", EdgeTest::laid, x -> x.rise(0, 0), STATE);
        still("23: it isn't PROVED", EdgeTest::unproved, x -> x.rise(0, 0), STATE);
        still("23: it isn't BASIC", EdgeTest::planned, x -> x.rise(0, 1), STATE);
        still("23: six", EdgeTest::planned, x -> x.rise(0, 0), 6);
        still("23: 99 at most", EdgeTest::planned, x -> x.rise(1, 0), 99);
    }

    private static void missed() {
        for (int n : outside(0, 1)) {
            still("24: what " + n, EdgeTest::unproved, x -> x.missed(n), NONE);
            still("24: NONE, and nothing is there " + n, EMPTY, x -> x.missed(n), NONE);
        }
        for (int n = 0; n < 2; n++) {
            int what = n;
            still("24: nothing is there " + n, EMPTY, x -> x.missed(what), -5);
            still("24: no WORK " + n, () -> Checks.made("q1,1"), x -> x.missed(what), -5);
            still("24: no QUARRY " + n, () -> Checks.made("w1,1"), x -> x.missed(what), -5);
            still("24: the only one is SHUT " + n, () -> Checks.made("q1,1;w1,1;r00x1"), x -> x.missed(what), -5);
            still("24: the only one, " + n, () -> Checks.made("q1,1;w1,1"), x -> x.missed(what), 1000 * what);
        }
        still("24: which one", EdgeTest::unproved, x -> x.missed(0), 10);
        C.due("24: the last one", Checks.made("q1,0;q1,0;w1,0;w1,0;r00x0;r01x0;r10x0").missed(0), 11);
    }

    // ---- seen, odds

    private static void see() {
        for (int n : outside(-1, 1)) {
            still("25: i " + n, EdgeTest::planned, x -> x.see(n, 0, 1), NONE);
            still("25: NONE ahead of BAD " + n, EdgeTest::planned, x -> x.see(n, 0, -1), NONE);
        }
        for (int n : outside(0, 4)) {
            still("25: NONE ahead of FULL " + n, EdgeTest::full, x -> x.see(4, n, 1), NONE);
        }
        for (int n : outside(0, 1)) {
            still("25: j " + n, EdgeTest::planned, x -> x.see(0, n, 1), NONE);
            still("25: all is dropped, and j " + n, EdgeTest::emptied, x -> x.see(-1, n, n), 0);
        }
        for (int n : outside(0, 99)) {
            still("25: n " + n, EdgeTest::planned, x -> x.see(1, 1, n), BAD);
            still("25: BAD ahead of FULL " + n, EdgeTest::full, x -> x.see(1, 1, n), BAD);
        }
        still("25: a sixth", EdgeTest::full, x -> x.see(4, 4, 99), FULL);
        still("25: no QUARRY", EMPTY, x -> x.see(0, 0, 1), NONE);
        StoneRoads x = planned();
        C.due("25: 0", x.see(1, 1, 0), 2);
        C.due("25: 99", x.see(1, 1, 99), 3);
        C.due("25: dropped", x.see(-1, 0, 0), 0);
        C.due("25: none", x.count(3), 0);
        C.due("25: the ORDER stays", x.count(4), 2);
        C.due("25: the BOOK stays", x.count(5), 2);
        C.due("25: dropped again", x.see(-1, 1, 1), 0);
    }

    /** As planned, with nothing SEEN, in the ORDER, in the BOOK. */
    private static StoneRoads emptied() {
        StoneRoads x = planned();
        x.see(-1, 0, 0);
        x.order(-1, 0);
        x.book(-1, 0, 0);
        return x;
    }

    private static void fits() {
        for (int n : outside(0, 1)) {
            still("26: i " + n, EdgeTest::unproved, x -> x.fits(n, 0, 0), NONE);
            still("26: j " + n, EdgeTest::unproved, x -> x.fits(0, n, 0), NONE);
            still("26: what " + n, EdgeTest::unproved, x -> x.fits(0, 0, n), NONE);
        }
        still("26: a SPARE QUARRY", EdgeTest::withSpareQuarry, x -> x.fits(3, 0, 0), NONE);
        still("26: all BASES 0 .. 30", EdgeTest::emptied, x -> x.fits(1, 1, 0), 31);
        still("26: the least is 0", EdgeTest::emptied, x -> x.fits(1, 1, 1), 0);
        StoneRoads x = planned();
        x.see(0, 0, 9);
        C.due("26: 10 and 9 are never both so", x.fits(0, 0, 0), 0);
        C.due("26: no BASE", x.fits(0, 0, 1), -5);
    }

    private static void odds() {
        for (int n : outside(0, 1)) {
            still("27: i " + n, EdgeTest::unproved, x -> x.odds(n, 0, 0), NO);
            still("27: j " + n, EdgeTest::unproved, x -> x.odds(0, n, 0), NO);
            still("27: part " + n, EdgeTest::unproved, x -> x.odds(0, 0, n), NO);
        }
        still("27: a SPARE QUARRY", EdgeTest::withSpareQuarry, x -> x.odds(3, 0, 1), NO);
        still("27: 2 of 10", EdgeTest::unproved, x -> x.odds(0, 0, 0), 1);
        still("27: 2 of 10, below", EdgeTest::unproved, x -> x.odds(0, 0, 1), 5);
        still("27: SHUT, the BASE is no matter", () -> Checks.made("q1,0;w1,0;r00x5"), x -> x.odds(0, 0, 1), 1);
    }

    private static void mean() {
        for (int n : outside(0, 1)) {
            still("28: part " + n, EdgeTest::planned, x -> x.mean(n), NO);
        }
        for (int n = 0; n < 2; n++) {
            int part = n;
            still("28: no PLAN " + n, EdgeTest::laid, x -> x.mean(part), NO);
            still("28: all LOADS are 0 " + n, () -> spareOf(PlanTest.ZEROS), x -> x.mean(part), NO);
            still("28: TOTAL is 0 " + n, () -> spareOf("q7,0;w0,0"), x -> x.mean(part), n);
            still("28: 134 by 25 " + n, EdgeTest::planned, x -> x.mean(part), n == 0 ? 134 : 25);
        }
    }

    // ---- orders, books

    private static void order() {
        for (int n : outside(-1, 3)) {
            still("29: what " + n, EdgeTest::planned, x -> x.order(n, 0), NONE);
            still("29: NONE ahead of FULL " + n, EdgeTest::full, x -> x.order(n, 0), NONE);
        }
        for (int n : outside(0, 1)) {
            still("29: QUARRY " + n, EdgeTest::planned, x -> x.order(0, n), NONE);
            still("29: WORK " + n, EdgeTest::planned, x -> x.order(1, n), NONE);
            still("29: TOLL of " + n, EdgeTest::planned, x -> x.order(3, n), NONE);
        }
        for (int n = -25; n < 125; n++) {
            if (n != 0 && n != 1 && n != 10 && n != 11) {
                int k = n;
                still("29: ROAD " + n, EdgeTest::planned, x -> x.order(2, k), NONE);
            }
        }
        for (int n : outside(0, 44)) {
            still("29: ROAD " + n, EdgeTest::full, x -> x.order(2, n), NONE);
            still("29: empty, and n " + n, EdgeTest::emptied, x -> x.order(-1, n), 0);
        }
        for (int n = 0; n < 4; n++) {
            int what = n;
            still("29: a ninth " + n, EdgeTest::full, x -> x.order(what, 4), FULL);
            C.due("29: the last of its kind", planned().order(n, n == 2 ? 11 : 1), 3);
        }
        still("29: nothing is there", EMPTY, x -> x.order(0, 0), NONE);
        StoneRoads x = planned();
        C.due("29: empty", x.order(-1, 0), 0);
        C.due("29: none", x.count(4), 0);
        C.due("29: SEEN stays", x.count(3), 1);
        C.due("29: the BOOK stays", x.count(5), 2);
    }

    private static void ends() {
        for (int n : outside(0, 2)) {
            still("30: what " + n, EdgeTest::planned, x -> x.ends(n), NONE);
            still("30: NONE, and nothing is there " + n, EMPTY, x -> x.ends(n), NONE);
        }
        int[] none = {-5, 0, 0};
        int[] onlyStones = {-5, 99, 0};
        int[] onlyWants = {-5, 0, 99};
        int[] even = {100, 0, 0};
        for (int n = 0; n < 3; n++) {
            int what = n;
            still("30: nothing is there " + n, EMPTY, x -> x.ends(what), none[n]);
            still("30: no WORK " + n, () -> Checks.made("q99,1"), x -> x.ends(what), onlyStones[n]);
            still("30: no QUARRY " + n, () -> Checks.made("w99,1"), x -> x.ends(what), onlyWants[n]);
            still("30: even " + n, EdgeTest::even, x -> x.ends(what), even[n]);
        }
        StoneRoads x = Checks.made("q98,0;w99,0");
        x.order(0, 0);
        C.due("30: 98 and one are 99", x.ends(2), 0);
        x.order(0, 0);
        C.due("30: 99 and one are 99", x.ends(1), 0);
        x.order(1, 0);
        C.due("30: and so of WANTS", x.ends(2), 0);
        C.due("30: it has not happened", x.of(0, 0, 0), 98);
    }

    private static void book() {
        for (int n : outside(-1, 1)) {
            still("31: i " + n, EdgeTest::planned, x -> x.book(n, 0, 1), NONE);
            still("31: NONE ahead of BAD " + n, EdgeTest::planned, x -> x.book(n, 0, -1), NONE);
        }
        for (int n : outside(0, 4)) {
            still("31: NONE ahead of FULL " + n, EdgeTest::full, x -> x.book(4, n, 1), NONE);
        }
        for (int n : outside(0, 1)) {
            still("31: j " + n, EdgeTest::planned, x -> x.book(0, n, 1), NONE);
            still("31: empty, and j " + n, EdgeTest::emptied, x -> x.book(-1, n, n), 0);
        }
        for (int n : outside(0, 99)) {
            still("31: n " + n, EdgeTest::planned, x -> x.book(1, 1, n), BAD);
            still("31: BAD ahead of FULL " + n, EdgeTest::full, x -> x.book(1, 1, n), BAD);
        }
        still("31: a ninth", EdgeTest::full, x -> x.book(4, 4, 99), FULL);
        still("31: no QUARRY", EMPTY, x -> x.book(0, 0, 1), NONE);
        StoneRoads x = planned();
        C.due("31: 0", x.book(1, 1, 0), 3);
        C.due("31: 99", x.book(1, 1, 99), 4);
        C.due("31: empty", x.book(-1, 0, 0), 0);
        C.due("31: none", x.count(5), 0);
        C.due("31: SEEN stays", x.count(3), 1);
        C.due("31: the ORDER stays", x.count(4), 2);
    }

    private static void looked() {
        still("32: no PLAN", EdgeTest::laid, StoneRoads::looked, STATE);
        still("32: no PLAN, no BOOK", EMPTY, StoneRoads::looked, STATE);
        still("32: an empty BOOK", EdgeTest::emptied, StoneRoads::looked, -5);
        still("32: row 1", EdgeTest::planned, StoneRoads::looked, 1);
        still("32: row 0", EdgeTest::unproved, StoneRoads::looked, 0);
        StoneRoads x = full();
        C.due("32: all eight are so", x.looked(), -5);
        x.book(-1, 0, 0);
        for (int n = 0; n < 8; n++) {
            x.book(0, 0, n == 7 ? 4 : 5);
        }
        C.due("32: the last is otherwise", x.looked(), 7);
    }

    // ---- judging, the image, tapes

    private static void judge() {
        for (int n : outside(0, 5)) {
            still("33: tape " + n, EdgeTest::planned, x -> x.judge(n, 0), NONE);
            still("33: NONE ahead of STATE " + n, EdgeTest::laid, x -> x.judge(n, 0), NONE);
            still("33: ends at once, from " + n, EdgeTest::planned, x -> x.judge(0, n), 100);
            still("33: holds nothing, from " + n, EdgeTest::planned, x -> x.judge(5, n), 100);
            still("33: an empty row, from " + n, EdgeTest::planned, x -> x.judge(2, n), 100);
            still("33: CAST, from " + n, EdgeTest::planned, x -> x.judge(1, n), CAST);
            still("33: STATE ahead of CAST, from " + n, EdgeTest::laid, x -> x.judge(1, n), STATE);
        }
        still("33: no PLAN, no row", EdgeTest::laid, x -> x.judge(5, 0), STATE);
        still("33: 10 0 0, and 0, where 2 is due", EdgeTest::planned, x -> x.judge(0, 0), 3);
        still("33: the last item, otherwise", EdgeTest::planned, x -> x.judge(0, 5), 0);
        for (int n = 0; n <= 6; n++) {
            StoneRoads x = planned();
            x.tape(3, 3, n);
            int[] loads = {10, 0, 0, 2, 8, 5};
            for (int k = 0; k < n; k++) {
                x.item(3, k, loads[k]);
            }
            C.due("33: a row of " + n, x.judge(3, 0), n < 6 ? 100 + n : -5);
        }
    }

    private static void undo() {
        still("35: there is none", EMPTY, StoneRoads::undo, STATE);
        still("35: there is none, too", EdgeTest::withSpareQuarry, StoneRoads::undo, STATE);
        StoneRoads x = new StoneRoads();
        C.due("34: of no QUARRY", x.image(), 0);
        for (int n = 0; n < 5; n++) {
            x.quarry(n, n);
            x.work(n, n);
        }
        C.due("35: to no QUARRY", x.undo(), 0);
        C.due("35: no QUARRY", x.count(0) + x.count(1), 0);
        C.due("35: QUARRY 0 comes again", x.quarry(9, 9), 0);
        C.due("35: THE IMAGE is as it was", x.undo(), 0);
        C.due("34: of five", full().image(), 5);
        x = planned();
        C.due("35: to what was laid", x.undo(), 2);
        C.due("35: no PLAN there", x.count(7), 0);
        C.due("35: the ORDER there", x.count(4), 1);
        C.due("35: THE TEXT is as it was", x.count(6), 1);
        C.due("35: TAPES are as they were", x.peek(0, 5), -9);
    }

    private static void count() {
        for (int n : outside(0, 7)) {
            still("36: what " + n, EdgeTest::planned, x -> x.count(n), BAD);
        }
        int[] due = {5, 5, 0, 5, 8, 8, 100, 1};
        int[] none = new int[8];
        for (int n = 0; n < 8; n++) {
            int what = n;
            still("36: full " + n, EdgeTest::full, x -> x.count(what), due[n]);
            still("36: none " + n, EMPTY, x -> x.count(what), none[n]);
        }
        StoneRoads x = full();
        for (int n = 0; n < 25; n++) {
            x.road(n / 5, n % 5, 3, 0);
        }
        C.due("36: all are SHUT", x.count(2), 25);
    }

    private static void tape() {
        for (int n : outside(0, 5)) {
            still("37: tape " + n, EdgeTest::planned, x -> x.tape(n, 0, 1), NONE);
            still("37: NONE ahead of BAD " + n, EdgeTest::planned, x -> x.tape(n, 5, 1), NONE);
            still("37: NONE, though it held nothing " + n, EdgeTest::planned, x -> x.tape(n, -1, 1), NONE);
        }
        for (int n : outside(-1, 4)) {
            still("37: sort " + n, EdgeTest::planned, x -> x.tape(0, n, 1), BAD);
            still("37: BAD sort ahead of SIZE " + n, EdgeTest::planned, x -> x.tape(0, n, -1), BAD);
        }
        for (int n : outside(0, 60)) {
            still("37: n " + n, EdgeTest::planned, x -> x.tape(0, 3, n), n < 0 ? SIZE : BAD);
            StoneRoads x = planned();
            C.due("37: holds nothing, n " + n, x.tape(0, -1, n), 1);
            C.due("37: nothing there", x.item(0, 0, 1), NOTHING);
        }
        for (int sort = 0; sort < 5; sort++) {
            StoneRoads x = planned();
            C.due("37: 0 of sort " + sort, x.tape(0, sort, 0), 1);
            C.due("37: no item", x.peek(0, 0), NO);
            C.due("37: 60 of sort " + sort, x.tape(0, sort, 60), 1);
            C.due("37: all 0", x.peek(0, 0), 0);
            C.due("37: all 0, up to 59", x.peek(0, 59), 0);
        }
    }

    private static void item() {
        for (int n : outside(0, 5)) {
            still("38: tape " + n, EdgeTest::planned, x -> x.item(n, 0, 1), NONE);
            still("38: NOTHING ahead of PLACE " + n, EdgeTest::planned, x -> x.item(5, n, 1), NOTHING);
            still("38: place " + n, EdgeTest::planned, x -> x.item(0, n, 1), PLACE);
            still("38: an empty row, place " + n, EdgeTest::planned, x -> x.item(2, n, 1), PLACE);
        }
        still("38: an empty row, place 0", EdgeTest::planned, x -> x.item(2, 0, 1), PLACE);
        long[] ends = {Long.MIN_VALUE, Long.MAX_VALUE, Integer.MAX_VALUE + 1L, Short.MAX_VALUE + 1L,
            Byte.MAX_VALUE + 1L, Byte.MIN_VALUE - 1L, Short.MIN_VALUE - 1L, Integer.MIN_VALUE - 1L, -256, 256, 0};
        for (long v : ends) {
            long[] due = {(byte) v, (short) v, (int) v, v, v == 0 ? 0 : 1};
            for (int sort = 0; sort < 5; sort++) {
                StoneRoads x = new StoneRoads();
                x.tape(5, sort, 60);
                C.due("38: " + v + " at the last place", x.item(5, 59, v), 1);
                C.due("38: " + v + " as one of sort " + sort, x.peek(5, 59), due[sort]);
            }
        }
    }

    private static void peek() {
        for (int n : outside(0, 5)) {
            still("39: tape " + n, EdgeTest::planned, x -> x.peek(n, 0), NO);
            still("39: place " + n, EdgeTest::planned, x -> x.peek(0, n), NO);
            still("39: holds nothing " + n, EdgeTest::planned, x -> x.peek(5, n), NO);
        }
        still("39: an empty row", EdgeTest::planned, x -> x.peek(2, 0), NO);
        still("39: a shorter row, place 3", EdgeTest::planned, x -> x.peek(1, 3), NO);
        still("39: the last item", EdgeTest::planned, x -> x.peek(0, 5), -9);
    }

    private static void shift() {
        for (int n : outside(0, 5)) {
            still("40: tape " + n, EdgeTest::planned, x -> x.shift(n, 0, 0, 0, 1), NONE);
            still("40: other " + n, EdgeTest::planned, x -> x.shift(0, 0, n, 0, 1), NONE);
            still("40: NONE ahead of NOTHING " + n, EdgeTest::planned, x -> x.shift(5, 0, n, 0, 1), NONE);
        }
        for (int n : outside(0, 6)) {
            still("40: i " + n, EdgeTest::planned, x -> x.shift(0, n, 0, 0, 0), PLACE);
            still("40: j " + n, EdgeTest::planned, x -> x.shift(0, 0, 0, n, 0), PLACE);
            still("40: n " + n, EdgeTest::planned, x -> x.shift(0, 0, 0, 0, n), PLACE);
            still("40: sums that wrap " + n, EdgeTest::planned, x -> x.shift(0, 3, 0, 3, n), PLACE);
            still("40: NOTHING ahead of PLACE " + n, EdgeTest::planned, x -> x.shift(0, n, 5, n, n), NOTHING);
            still("40: CAST ahead of PLACE " + n, EdgeTest::planned, x -> x.shift(0, n, 1, n, n), CAST);
        }
        still("40: NOTHING ahead of CAST", EdgeTest::planned, x -> x.shift(1, 0, 4, 0, 1), NOTHING);
        still("40: it holds nothing itself", EdgeTest::planned, x -> x.shift(4, 0, 4, 0, 0), NOTHING);
        still("40: none, at the end", EdgeTest::planned, x -> x.shift(0, 6, 0, 6, 0), 0);
        still("40: none, to an empty row", EdgeTest::planned, x -> x.shift(0, 6, 2, 0, 0), 0);
        still("40: all onto themselves", EdgeTest::planned, x -> x.shift(0, 0, 0, 0, 6), 6);
        still("40: one more than there are", EdgeTest::planned, x -> x.shift(0, 1, 0, 0, 6), PLACE);
        still("40: one more than there is room", EdgeTest::planned, x -> x.shift(0, 0, 0, 1, 6), PLACE);
        still("40: no room at all", EdgeTest::planned, x -> x.shift(0, 0, 2, 0, 1), PLACE);
        StoneRoads x = planned();
        C.due("40: the last becomes the first", x.shift(0, 5, 0, 0, 1), 1);
        C.due("40: there", x.peek(0, 0), -9);
        C.due("40: and here", x.peek(0, 5), -9);
    }

    /** All that is asked, one behind the other, changes nothing. */
    private static void asked() {
        still("asking a PLAN that is PROVED", EdgeTest::planned, EdgeTest::askAll, 0);
        still("asking a PLAN that isn't", EdgeTest::unproved, EdgeTest::askAll, 0);
        still("asking without a PLAN", EdgeTest::laid, EdgeTest::askAll, 0);
        still("asking a full one", EdgeTest::full, EdgeTest::askAll, 0);
        still("asking nothing", EMPTY, EdgeTest::askAll, 0);
    }

    private static long askAll(StoneRoads x) {
        for (int n = 0; n < 3; n++) {
            x.best(n, n, 0);
            x.cheapest(n);
            x.missed(n);
            x.ends(n);
            x.mean(n);
            x.enters(n);
            x.worth(0, n);
            x.judge(n, 0);
            for (int k = 0; k < 3; k++) {
                x.more(n, k);
                x.rise(n, k);
                x.fits(n, k, 0);
                x.odds(n, k, 0);
                x.loop(n, k, -2);
                x.surplus(n, k);
            }
        }
        return 0;
    }
}
