/** Promises 20 to 24: BEST, CHEAPEST and FEWEST, MORE, RISE, MISSED. */
public final class BestTest {
    private static final Checks C = new Checks();
    /** By LEAST and FIRST it is not PROVED behind 100 STEPS, so that there is no THE BEST. */
    static final String LONG_LEAST = "q25,6;q22,6;q24,3;q37,2;q79,1;w38,3;w23,8;w94,8;w79,5;w72,8";
    static final int[] LONG_LEAST_KINDS = {
        0, 0, 1, 1, 2, 0, 0, 0, 2, 1, 1, 0, 0, 2, 1, 2, 2, 0, 3, 1, 2, 0, 1, 0, 0};
    static final int[] LONG_LEAST_BASES = {
        49, 64, 55, 86, 25, 1, 12, 18, 11, 18, 58, 57, 37, 90, 82, 10, 29, 64, 88, 77, 14, 58, 27, 91, 77};

    public static void main(String[] args) {
        refusals();
        best();
        cheapest();
        more();
        moreThanMost();
        rise();
        riseOfAll();
        missed();
        missedOfSeveral();
        noBest();
        C.finish();
    }

    static StoneRoads longLeast() {
        return PlanTest.laid(LONG_LEAST, LONG_LEAST_KINDS, LONG_LEAST_BASES);
    }

    private static void refusals() {
        StoneRoads x = new StoneRoads();
        C.due("20: rule 3", x.best(3, 0, 0), StoneRoads.BAD);
        C.due("20: rule -1", x.best(-1, 0, 0), StoneRoads.BAD);
        C.due("20: manner 3", x.best(0, 3, 0), StoneRoads.BAD);
        C.due("20: manner -1", x.best(0, -1, 0), StoneRoads.BAD);
        C.due("20: what 2", x.best(0, 0, 2), StoneRoads.NONE);
        C.due("20: what -1", x.best(0, 0, -1), StoneRoads.NONE);
        C.due("20: BAD ahead of NONE", x.best(3, 0, 2), StoneRoads.BAD);
        C.due("20: nothing is there", x.best(0, 0, 0), -5);
        C.due("21: what 2", x.cheapest(2), StoneRoads.NONE);
        C.due("21: what -1", x.cheapest(-1), StoneRoads.NONE);
        C.due("21: nothing is there", x.cheapest(0), -5);
        C.due("21: nothing is there, too", x.cheapest(1), -5);
        C.due("22: nothing is there", x.more(0, 0), StoneRoads.NO);
        C.due("23: nothing is there", x.rise(0, 0), StoneRoads.NONE);
        C.due("24: what 2", x.missed(2), StoneRoads.NONE);
        C.due("24: what -1", x.missed(-1), StoneRoads.NONE);
        C.due("24: nothing is there", x.missed(0), -5);
        C.due("24: nothing is there, too", x.missed(1), -5);
        x.quarry(9, 0);
        C.due("20: no WORK", x.best(0, 0, 0), -5);
        C.due("20: no WORK, STEPS", x.best(0, 0, 1), -5);
        C.due("21: no WORK", x.cheapest(0), -5);
        C.due("24: no ROAD", x.missed(0), -5);
    }

    private static void best() {
        StoneRoads x = Checks.made(PlanTest.SPARE_WORK);
        int[] steps = {0, 1, 0};
        for (int rule = 0; rule < 3; rule++) {
            for (int manner = 0; manner < 3; manner++) {
                C.due("20: BEST", x.best(rule, manner, 0), 134);
                C.due("20: its STEPS", x.best(rule, manner, 1), steps[rule]);
            }
        }
        C.due("20: no PLAN comes by that", x.count(7), 0);
        x.start(1);
        x.best(0, 0, 0);
        C.due("20: nor does one go", x.told(0), 169);
        C.due("20: a SPARE QUARRY", Checks.made(PlanTest.SPARE_QUARRY).best(0, 1, 0), 35);
    }

    private static void cheapest() {
        StoneRoads x = Checks.made(PlanTest.SPARE_WORK);
        C.due("21: of 134, 169, 134 the first", x.cheapest(0), 0);
        C.due("21: 0 STEPS, the least number", x.cheapest(1), 0);
        x = Checks.made(PlanTest.SPARE_QUARRY);
        C.due("21: 51, 42, 35", x.start(0) * 10000 + x.start(1) * 100 + x.start(2), 514235);
        C.due("21: REGRET", x.cheapest(0), 2);
        C.due("21: REGRET needs none", x.cheapest(1), 20);
        C.due("21: no PLAN comes, nor goes by that", x.count(7), 1);
        few("q2,4;q6,9;q6,9;w9,3;w5,3", "r00p9;r01s1;r10s18;r11t4;r20t0;r21s16", "1 3 1 0 0 0 0 0 0 ", 110);
        few("q9,9;q4,7;q9,6;w5,9;w8,6", "r00t17;r01p10;r10s9;r11t4;r20t8;r21p13", "3 3 3 3 2 2 2 2 2 ", 111);
        few("q1,3;q1,9;q6,4;w4,9;w4,3;w3,5", "r00s12;r01t3;r02p7;r10s5;r11p0;r12p10;r20p7;r21t2;r22s0",
                "3 3 3 2 2 1 1 1 1 ", 212);
        few("q5,2;q2,4;q5,9;w1,2;w3,2;w3,7", "r00p13;r01s8;r02p8;r10p13;r11s8;r12p17;r20p14;r21t12;r22s9",
                "3 6 6 3 4 4 3 3 2 ", 222);
        few("q4,2;q6,9;q5,7;w3,9;w3,7;w8,1", "r00s1;r01p13;r02s5;r10s7;r11t2;r12t19;r20p15;r21t3;r22s11",
                "4 4 5 3 3 3 3 2 3 ", 221);
    }

    /** STEPS by all RULES and MANNERS; 100 times CHEAPEST, and FEWEST. */
    private static void few(String sites, String roads, String steps, int told) {
        StoneRoads x = Checks.made(sites);
        Checks.read(x, roads);
        StringBuilder all = new StringBuilder();
        for (int n = 0; n < 9; n++) {
            all.append(x.best(n / 3, n % 3, 1)).append(' ');
        }
        C.due("20: STEPS", all.toString(), steps);
        C.due("21: CHEAPEST and FEWEST", 100 * x.cheapest(0) + x.cheapest(1), told);
    }

    private static void more() {
        StoneRoads x = Checks.made(PlanTest.SPARE_WORK);
        C.due("22: the STONE goes there", x.more(0, 0), 4);
        C.due("22: one goes a longer way", x.more(0, 1), 2);
        C.due("22: as it is there", x.more(1, 0), 11);
        C.due("22: as it is there, too", x.more(1, 1), 9);
        C.due("22: no QUARRY 2", x.more(2, 0), StoneRoads.NO);
        C.due("22: no WORK 2, though a SPARE one", x.more(0, 2), StoneRoads.NO);
        C.due("22: below 0", x.more(-1, 0), StoneRoads.NO);
        C.due("22: below 0, too", x.more(0, -1), StoneRoads.NO);
        C.due("22: nothing has changed", x.of(0, 0, 0), 10);
        x = Checks.made("q5,0;q5,0;w5,0;w5,0;r00p9;r01p1;r10p1;r11p99");
        x.renew(0, 1, 0, 9);
        x.renew(1, 1, 0, 9);
        C.due("22: THE BEST now", x.best(1, 1, 0), 5 + 5 + 4 * 99);
        // One more goes from 0 to 1, one more from 1 to 0, one less from 1 to 1.
        C.due("22: a STONE more may cost less", x.more(0, 0), 1 + 1 - 99);
    }

    /** MORE knows no bound: 99 become 100. */
    private static void moreThanMost() {
        StoneRoads x = Checks.made("q99,0;w99,0;r00p7");
        C.due("22: 100 STONES", x.more(0, 0), 7);
    }

    private static void rise() {
        StoneRoads x = Checks.made(PlanTest.SPARE_WORK);
        C.due("23: no PLAN", x.rise(0, 0), StoneRoads.STATE);
        x.start(1);
        C.due("23: it isn't PROVED", x.rise(0, 0), StoneRoads.STATE);
        x.step(1, 1);
        C.due("23: till 0 1 is as dear", x.rise(0, 0), 6);
        C.due("23: more than 99", x.rise(1, 0), 99);
        C.due("23: till 0 1 is as dear, too", x.rise(1, 1), 6);
        C.due("23: not BASIC", x.rise(0, 1), StoneRoads.STATE);
        C.due("23: no ROAD, though a CELL", x.rise(1, 2), StoneRoads.NONE);
        C.due("23: no QUARRY", x.rise(2, 0), StoneRoads.NONE);
        C.due("23: below 0", x.rise(-1, 0), StoneRoads.NONE);
        C.due("23: below 0, too", x.rise(0, -1), StoneRoads.NONE);
        C.due("23: nothing has changed", Checks.worths(x), "0 7 / 4 2 -7");
        C.due("23: nothing has changed, too", x.told(0), 134);
        C.due("23: STEPS are as they were", x.trace(0, 0), 12);
    }

    private static void riseOfAll() {
        StoneRoads x = Checks.made("q5,0;w5,0;r00x0");
        x.start(0);
        C.due("23: the only ROAD, SHUT", x.rise(0, 0), 99);
        x = Checks.made("q5,0;w2,0;w3,0");
        x.start(0);
        C.due("23: there is no other way", x.rise(0, 1), 99);
        x = Checks.made("q1,0;q1,0;w1,0;w1,0");
        x.start(0);
        C.due("23: another one is as dear", x.rise(0, 0), 0);
        int[][] due = {{0, 0, 0}, {9, 4, 13}, {50, 48, 98}, {50, 49, 99}, {50, 50, 99}, {99, 99, 99}};
        for (int[] row : due) {
            x = Checks.made("q1,0;q1,0;w1,0;w1,0;r00p0;r11p0");
            x.road(1, 0, 0, row[0]);
            x.road(0, 1, 0, row[1]);
            x.start(0);
            C.due("23: both others cost as much", x.rise(0, 0), row[2]);
        }
    }

    private static void missed() {
        StoneRoads x = Checks.made(PlanTest.SPARE_WORK);
        C.due("24: two STONES would cost 1000 each", x.missed(1), 2 * 1000 + 40 + 72);
        C.due("24: from 1 to 0", x.missed(0), 10);
        C.due("24: nothing is SHUT by that", x.count(2), 0);
        x.road(1, 0, 3, 5);
        C.due("24: those that are SHUT don't count", x.missed(0), 0);
        C.due("24: twelve would cost 1000 each", x.missed(1), 12 * 1000 + 8 * 8);
        x.start(0);
        x.missed(0);
        C.due("24: the PLAN stays", x.count(7), 1);
    }

    private static void missedOfSeveral() {
        StoneRoads x = Checks.made("q1,0;q1,0;w1,0;w1,0;r00p5;r01p5;r10p5;r11p5");
        C.due("24: none would be missed: the first", x.missed(0), 0);
        C.due("24: THE BEST then", x.missed(1), 10);
        x.road(0, 0, 3, 0);
        C.due("24: of 01 and 10 the first", x.missed(0), 1);
        C.due("24: THE BEST then", x.missed(1), 1005);
        x.road(0, 1, 3, 0);
        x.road(1, 0, 3, 0);
        x.road(1, 1, 3, 0);
        C.due("24: all are SHUT", x.missed(0), -5);
        C.due("24: all are SHUT, too", x.missed(1), -5);
        C.due("24: no STONES", Checks.made("q0,0;w0,0").missed(1), 0);
    }

    /** Where a hundred STEPS prove nothing. */
    private static void noBest() {
        StoneRoads x = longLeast();
        C.due("20: THE BEST isn't there", x.best(1, 1, 0), -5);
        C.due("20: by another MANNER it is", x.best(1, 0, 0), 6362);
        C.due("21: CHEAPEST asks for no proof", x.cheapest(0), 2);
        C.due("21: FEWEST", x.cheapest(1), 20);
        C.due("22: one of both isn't there", x.more(0, 0), StoneRoads.NO);
        C.due("24: some are there", x.missed(0), 42);
        C.due("24: the greatest of them", x.missed(1), 9235);
        C.due("26: where it isn't there it is not so", x.fits(3, 3, 0), 0);
        C.due("26: no BASE", x.fits(3, 3, 1), -5);
        C.due("30: it isn't there", x.ends(0), -5);
        C.due("30: what nobody has", x.ends(2), 119);
        x.order(2, 23);
        C.due("30: with one ROAD SHUT it is", x.ends(0), 6362);
        x.renew(0, 4, 0, x.of(0, 4, 0) - 1);
        x.renew(1, 4, 0, x.of(1, 4, 0) - 1);
        C.due("20: with a STONE less it is there", x.best(1, 1, 0), 6302);
        C.due("22: with that STONE more it isn't", x.more(4, 4), StoneRoads.NO);
        C.due("22: with another one it is", x.more(0, 0) != StoneRoads.NO ? 1 : 0, 1);
    }
}
