/** Promises 10 to 19: starting, stepping, loads, worths, loops, the trace. */
public final class PlanTest {
    private static final Checks C = new Checks();
    /** Costs 4 8 / 11 9; 25 STONES, 20 wanted: a SPARE WORK wants 5. */
    static final String SPARE_WORK = "q10,2;q15,0;w12,1;w8,3;r00p4;r01t6;r10s5;r11p9";
    /** Costs 7 3 / 5 6 / 4 8; 9 STONES, 20 wanted: a SPARE QUARRY has 11. */
    static final String SPARE_QUARRY = "q4,0;q3,0;q2,0;w12,0;w8,0;r00p7;r01p3;r10p5;r11p6;r20p4;r21p8";
    /** All STONES and WANTS are 0; costs 5 1 / 1 5. */
    static final String ZEROS = "q0,0;q0,0;w0,0;w0,0;r00p5;r01p1;r10p1;r11p5";
    /** By CORNER and FIRST it is not PROVED behind 100 STEPS. */
    static final String LONG_CORNER = "q0,8;q1,8;q2,9;q1,9;q2,0;w0,6;w0,5;w2,6;w0,9;w1,6";
    static final int[] LONG_CORNER_KINDS = {
        0, 0, 1, 2, 1, 2, 0, 2, 1, 0, 0, 0, 2, 2, 1, 0, 1, 1, 0, 2, 0, 2, 1, 2, 0};
    static final int[] LONG_CORNER_BASES = {
        57, 64, 86, 38, 47, 27, 85, 38, 96, 53, 86, 66, 83, 66, 22, 58, 85, 52, 98, 31, 52, 29, 4, 39, 12};

    public static void main(String[] args) {
        refusals();
        corner();
        least();
        regret();
        regretOfSeveral();
        spareQuarry();
        zeros();
        steps();
        manners();
        turnsOfNone();
        loops();
        leaving();
        hundredSteps();
        greatestWithSpareWork();
        greatestWithSpareQuarry();
        longestLoop();
        rowsBesideTheSpareWork();
        C.finish();
    }

    static StoneRoads laid(String sites, int[] kinds, int[] bases) {
        StoneRoads x = Checks.made(sites);
        for (int n = 0; n < 25; n++) {
            x.road(n / 5, n % 5, kinds[n], bases[n]);
        }
        return x;
    }

    private static void refusals() {
        StoneRoads x = new StoneRoads();
        C.due("10: rule -1", x.start(-1), StoneRoads.BAD);
        C.due("10: rule 3", x.start(3), StoneRoads.BAD);
        C.due("10: nothing is there", x.start(2), StoneRoads.STATE);
        x.quarry(5, 0);
        C.due("10: no WORK", x.start(0), StoneRoads.STATE);
        StoneRoads y = new StoneRoads();
        y.work(5, 0);
        C.due("10: no QUARRY", y.start(0), StoneRoads.STATE);
        x.work(5, 0);
        C.due("11: no PLAN", x.step(0, 0), StoneRoads.STATE);
        C.due("11: manner 3", x.step(3, 0), StoneRoads.BAD);
        C.due("11: manner -1", x.step(-1, 0), StoneRoads.BAD);
        C.due("11: n -1", x.step(0, -1), StoneRoads.BAD);
        C.due("11: n 101", x.step(0, 101), StoneRoads.BAD);
        C.due("12: no PLAN", x.load(9, 9), StoneRoads.STATE);
        C.due("13: no PLAN", x.basic(9, 9), StoneRoads.STATE);
        C.due("14: no PLAN", x.worth(0, 0), StoneRoads.NO);
        C.due("15: no PLAN", x.surplus(0, 0), StoneRoads.NO);
        C.due("16: no PLAN", x.loop(9, 9, 0), StoneRoads.STATE);
        C.due("17: no PLAN", x.enters(0), StoneRoads.STATE);
        C.due("17: manner 3", x.enters(3), StoneRoads.BAD);
        C.due("17: manner -1", x.enters(-1), StoneRoads.BAD);
        C.due("18: no PLAN", x.told(9), StoneRoads.STATE);
        C.due("19: no PLAN", x.trace(0, 9), StoneRoads.STATE);
        C.due("10: 5 STONES that cost 10", x.start(0), 50);
        C.due("10: a refused start leaves the PLAN", x.start(3), StoneRoads.BAD);
        C.due("10: it is there", x.count(7), 1);
        notThere(x);
    }

    private static void notThere(StoneRoads x) {
        int[][] cells = {{1, 0}, {0, 1}, {-1, 0}, {0, -1}, {Integer.MAX_VALUE, 0}, {0, Integer.MIN_VALUE}};
        for (int[] cell : cells) {
            C.due("12: no such CELL", x.load(cell[0], cell[1]), StoneRoads.NONE);
            C.due("13: no such CELL", x.basic(cell[0], cell[1]), StoneRoads.NONE);
            C.due("15: no such CELL", x.surplus(cell[0], cell[1]), StoneRoads.NO);
            C.due("16: no such CELL", x.loop(cell[0], cell[1], 0), StoneRoads.NONE);
        }
        C.due("14: no SOURCE 1", x.worth(0, 1), StoneRoads.NO);
        C.due("14: no SINK 1", x.worth(1, 1), StoneRoads.NO);
        C.due("14: k -1", x.worth(0, -1), StoneRoads.NO);
        C.due("14: side 2", x.worth(2, 0), StoneRoads.NO);
        C.due("14: side -1", x.worth(-1, 0), StoneRoads.NO);
        C.due("18: what 8", x.told(8), StoneRoads.NONE);
        C.due("18: what -1", x.told(-1), StoneRoads.NONE);
        C.due("19: no STEP yet", x.trace(0, 0), StoneRoads.NONE);
    }

    private static void corner() {
        StoneRoads x = Checks.made(SPARE_WORK);
        C.due("10: CORNER", x.start(0), 134);
        C.due("12, 13: CORNER", Checks.loads(x), "10* 0 0 2* 8* 5*");
        C.due("14: CORNER", Checks.worths(x), "0 7 / 4 2 -7");
        C.due("15: CORNER", Checks.surpluses(x), "0 6 7 0 0 0");
        C.due("18: TOTAL", x.told(0), 134);
        C.due("18: STEPS", x.told(1), 0);
        C.due("18: PROVED", x.told(2), 1);
        C.due("18: BASIC zeros", x.told(3), 0);
        C.due("18: SURPLUS 0", x.told(4), 0);
        C.due("18: SURPLUS below 0", x.told(5), 0);
        C.due("18: SOURCES", x.told(6), 2);
        C.due("18: SINKS", x.told(7), 3);
        C.due("17: none", x.enters(0), -5);
        C.due("11: no STEP", x.step(0, 100), 0);
    }

    private static void least() {
        StoneRoads x = Checks.made(SPARE_WORK);
        C.due("10: LEAST", x.start(1), 169);
        C.due("12, 13: LEAST", Checks.loads(x), "5* 0 5* 7* 8* 0");
        C.due("14: LEAST", Checks.worths(x), "0 7 / 4 2 0");
        C.due("15: LEAST", Checks.surpluses(x), "0 6 0 0 0 -7");
        C.due("18: PROVED", x.told(2), 0);
        C.due("18: SURPLUS below 0", x.told(5), 1);
        C.due("17: the only one", x.enters(2), 12);
        C.due("16: numbers", x.loop(1, 2, -1), 4);
        C.due("16: TURN", x.loop(1, 2, -2), 5);
        C.due("16: 0", x.loop(1, 2, 0), 12);
        C.due("16: 1", x.loop(1, 2, 1), 2);
        C.due("16: 2", x.loop(1, 2, 2), 0);
        C.due("16: 3", x.loop(1, 2, 3), 10);
        C.due("16: 4", x.loop(1, 2, 4), StoneRoads.NONE);
        C.due("16: -3", x.loop(1, 2, -3), StoneRoads.NONE);
        C.due("16: BASIC", x.loop(0, 0, 0), StoneRoads.BAD);
        C.due("16: BASIC, whatever k is", x.loop(0, 0, 99), StoneRoads.BAD);
        C.due("11: n 0", x.step(0, 0), 0);
        C.due("11: one STEP", x.step(0, 100), 1);
        C.due("12, 13: then", Checks.loads(x), "10* 0 0 2* 8* 5*");
        C.due("18: TOTAL then", x.told(0), 134);
        C.due("18: STEPS then", x.told(1), 1);
        C.due("18: PROVED then", x.told(2), 1);
        C.due("19: ENTERED", x.trace(0, 0), 12);
        C.due("19: LEFT", x.trace(0, 1), 2);
        C.due("19: TURN", x.trace(0, 2), 5);
        C.due("19: what 3", x.trace(0, 3), StoneRoads.NONE);
        C.due("19: what -1", x.trace(0, -1), StoneRoads.NONE);
        C.due("19: k 1", x.trace(1, 0), StoneRoads.NONE);
        C.due("19: k -1", x.trace(-1, 0), StoneRoads.NONE);
        x.start(1);
        C.due("10: no STEPS any more", x.told(1), 0);
        C.due("10: no trace any more", x.trace(0, 0), StoneRoads.NONE);
    }

    private static void regret() {
        StoneRoads x = Checks.made(SPARE_WORK);
        C.due("10: REGRET", x.start(2), 134);
        C.due("12, 13: REGRET", Checks.loads(x), "10* 0 0 2* 8* 5*");
    }

    /** Of several the first; a SOURCE ahead of a SINK; just one CELL: what it costs. */
    private static void regretOfSeveral() {
        StoneRoads x = Checks.made("q4,0;q4,0;w4,0;w4,0;r00p3;r01p5;r10p5;r11p3");
        C.due("10: all REGRETS are 2", x.start(2), 24);
        C.due("10: SOURCE 0 is ahead", Checks.loads(x), "4* 0 0* 4*");
        x = Checks.made("q6,0;q4,0;w4,0;w6,0;r00p9;r01p9;r10p9;r11p9");
        C.due("10: all cost alike by LEAST", x.start(1), 90);
        C.due("10: the first is ahead", Checks.loads(x), "4* 2* 0 4*");
        C.due("10: all REGRETS are 0", x.start(2), 90);
        C.due("10: SOURCE 0 and SINK 0", Checks.loads(x), "4* 2* 0 4*");
        // SINK 0's REGRET is 7, SOURCE 0's 5; SINK 1's 5, SOURCE 1's 7 is ahead of SINK 0's.
        x = Checks.made("q5,0;q5,0;w5,0;w5,0;r00p9;r01p4;r10p2;r11p9");
        C.due("10: SOURCE 1 is ahead of SINK 0", x.start(2), 30);
        C.due("10: its cheaper CELL", Checks.loads(x), "0* 5* 5* 0");
    }

    private static void spareQuarry() {
        StoneRoads x = Checks.made(SPARE_QUARRY);
        C.due("10: CORNER with a SPARE QUARRY", x.start(0), 51);
        C.due("12: its CELLS", Checks.loads(x), "4* 0 3* 0 2* 0 3* 8*");
        C.due("18: SOURCES", x.told(6), 4);
        C.due("18: SINKS", x.told(7), 2);
        C.due("14: WORTHS", Checks.worths(x), "0 -2 -3 -7 / 7 7");
        C.due("15: SURPLUSES", Checks.surpluses(x), "0 -4 0 1 0 4 0 0");
        C.due("11: one STEP", x.step(1, 100), 1);
        C.due("12: then", Checks.loads(x), "0 4* 3* 0 2* 0 7* 4*");
        C.due("18: TOTAL", x.told(0), 35);
        C.due("10: LEAST with a SPARE QUARRY", x.start(1), 42);
        C.due("12: LEAST starts where it costs 0", Checks.loads(x), "0 4* 0 3* 1* 1* 11* 0");
    }

    private static void zeros() {
        StoneRoads x = Checks.made(ZEROS);
        C.due("10: nothing is had", x.start(0), 0);
        C.due("13: BASIC zeros", Checks.loads(x), "0* 0 0* 0*");
        C.due("18: three of them", x.told(3), 3);
        C.due("15: SURPLUS", x.surplus(0, 1), -8);
        C.due("11: a TURN of 0 is a STEP", x.step(0, 1), 1);
        C.due("11: of several the first CELL LEAVES", Checks.loads(x), "0 0* 0* 0*");
        C.due("19: it LEFT", x.trace(0, 1), 0);
        C.due("19: TURN 0", x.trace(0, 2), 0);
        C.due("18: STEPS", x.told(1), 1);
        C.due("18: zeros are kept", x.told(3), 3);
        x.road(0, 0, 0, 1);
        x.road(1, 1, 0, 1);
        x.start(0);
        C.due("18: one that isn't BASIC has SURPLUS 0", x.told(4), 1);
        C.due("18: none is below 0", x.told(5), 0);
        C.due("18: PROVED with SURPLUS 0", x.told(2), 1);
        x.quarry(0, 0);
        x.start(0);
        C.due("13: CORNER keeps zeros", Checks.loads(x), "0* 0 0* 0 0* 0*");
    }

    /** One STEP after the other is as many at once. */
    private static void steps() {
        StoneRoads x = many();
        StoneRoads y = many();
        int total = x.start(0);
        y.start(0);
        int all = y.step(0, 100);
        C.due("11: more than two STEPS", all > 2 ? 1 : 0, 1);
        for (int k = 0; k < all; k++) {
            int entering = x.enters(0);
            C.due("11: one STEP", x.step(0, 1), 1);
            C.due("19: as it was told ahead", x.trace(k, 0), entering);
            C.due("11: TOTAL sinks, or TURN is 0", x.told(0) < total || x.trace(k, 2) == 0 ? 1 : 0, 1);
            total = x.told(0);
        }
        C.due("11: no STEP any more", x.step(0, 1), 0);
        C.due("12: the same", Checks.loads(x), Checks.loads(y));
        x.start(0);
        C.due("11: two at most", x.step(0, 2), 2);
        C.due("11: the rest", x.step(0, 100), all - 2);
    }

    private static StoneRoads many() {
        return Checks.made("q30,1;q20,2;q40,3;w25,1;w35,2;w30,3;r00p30;r01p5;r12p2;r20p4;r22p40");
    }

    /** Costs 20 9 1 / 20 20 20 / 20 20 20 by CORNER: SURPLUSES and TURNS lead three ways. */
    private static void manners() {
        StoneRoads x = Checks.made("q9,0;q9,0;q2,0;w9,0;w9,0;w2,0;r01p9;r00p20;r02p1");
        Checks.read(x, "r10p20;r11p20;r12p20;r20p20;r21p20;r22p20");
        C.due("10: CORNER", x.start(0), 400);
        C.due("12: CORNER", Checks.loads(x), "9* 0 0 0* 9* 0 0 0* 2*");
        C.due("15: SURPLUSES", Checks.surpluses(x), "0 -11 -19 0 0 0 0 0 0");
        C.due("16: TURN of 0 1", x.loop(0, 1, -2), 9);
        C.due("16: TURN of 0 2", x.loop(0, 2, -2), 2);
        C.due("16: LOOP of 0 2", x.loop(0, 2, -1), 6);
        C.due("17: STEEPEST", x.enters(0), 2);
        C.due("17: FIRST", x.enters(1), 1);
        C.due("17: DEAREST", x.enters(2), 1);
        x.road(0, 1, 0, 18);
        x.start(0);
        C.due("15: SURPLUSES now", Checks.surpluses(x), "0 -2 -19 0 0 0 0 0 0");
        C.due("17: STEEPEST now", x.enters(0), 2);
        C.due("17: FIRST now", x.enters(1), 1);
        C.due("17: DEAREST now", x.enters(2), 2);
        x.road(0, 1, 0, 1);
        x.start(0);
        C.due("17: of several the first", x.enters(0), 1);
        x.road(0, 1, 0, 18);
        x.road(0, 2, 0, 11);
        x.start(0);
        C.due("15: SURPLUSES at last", Checks.surpluses(x), "0 -2 -9 0 0 0 0 0 0");
        C.due("17: -2 times 9, -9 times 2: of both the first", x.enters(2), 1);
        x.road(0, 2, 0, 10);
        x.start(0);
        C.due("17: -10 times 2 is less", x.enters(2), 2);
    }

    /** Costs 10 1 / 10 8 / 10 10 by CORNER, where QUARRY 0 has nothing. */
    private static void turnsOfNone() {
        StoneRoads x = Checks.made("q0,0;q5,0;q5,0;w5,0;w5,0;r01p1;r11p8");
        x.start(0);
        C.due("12: QUARRY 0 is BASIC with 0", Checks.loads(x), "0* 0 5* 0 0* 5*");
        C.due("15: SURPLUSES", Checks.surpluses(x), "0 -9 0 -2 0 0");
        C.due("16: TURN of 0 1", x.loop(0, 1, -2), 0);
        C.due("16: TURN of 1 1", x.loop(1, 1, -2), 5);
        C.due("17: STEEPEST", x.enters(0), 1);
        C.due("17: FIRST", x.enters(1), 1);
        C.due("17: -9 times 0 is more than -2 times 5", x.enters(2), 11);
        C.due("11: that one", x.step(2, 1), 1);
        C.due("19: of 10 and 21 the first LEFT", x.trace(0, 1), 10);
        C.due("11: the other stays with 0", Checks.loads(x), "0* 0 0 5* 5* 0*");
        x.start(0);
        C.due("11: 0 1 by a TURN of 0", x.step(1, 1), 1);
        C.due("19: TURN 0", x.trace(0, 2), 0);
        C.due("19: LEFT", x.trace(0, 1), 0);
        C.due("12: as it was, but for what is BASIC", Checks.loads(x), "0 0* 5* 0 0* 5*");
        C.due("18: TOTAL is as it was", x.told(0), 100);
    }

    private static void loops() {
        StoneRoads x = Checks.made("q1,0;q1,0;q1,0;q1,0;q1,0;w1,0;w1,0;w1,0;w1,0;w1,0");
        x.start(0);
        StringBuilder told = new StringBuilder();
        for (int k = -1; k < 11; k++) {
            told.append(x.loop(0, 4, k)).append(' ');
        }
        C.due("16: the longest LOOP", told.toString(), "10 4 44 43 33 32 22 21 11 10 0 -1 ");
        C.due("16: its TURN", x.loop(0, 4, -2), 1);
        told.setLength(0);
        for (int k = -1; k < 5; k++) {
            told.append(x.loop(3, 1, k)).append(' ');
        }
        C.due("16: a LOOP below", told.toString(), "4 31 21 22 32 -1 ");
    }

    private static void leaving() {
        StoneRoads x = Checks.made("q1,0;q1,0;q1,0;w1,0;w1,0;w1,0;r02p0");
        x.start(0);
        C.due("12: zeros", Checks.loads(x), "1* 0 0 0* 1* 0 0 0* 1*");
        C.due("16: TURN", x.loop(0, 2, -2), 1);
        C.due("11: one STEP", x.step(0, 1), 1);
        C.due("19: of 22, 11, 00 the first LEFT", x.trace(0, 1), 0);
        C.due("12: then", Checks.loads(x), "0 0 1* 1* 0* 0 0 1* 0*");
    }

    /** Five of both, and a sixth SINK; all ROADS cost 10. */
    private static void greatestWithSpareWork() {
        StoneRoads x = Checks.made("q9,0;q9,0;q9,0;q9,0;q9,0;w5,0;w5,0;w5,0;w5,0;w5,0");
        C.due("10: all", x.start(0), 250);
        C.due("12: all", Checks.loads(x), "5* 4* 0 0 0 0 0 1* 5* 3* 0 0 "
                + "0 0 0 2* 5* 2* 0 0 0 0 0 9* 0 0 0 0 0 9*");
        C.due("14: all", Checks.worths(x), "0 0 0 0 0 / 10 10 10 10 10 0");
        C.due("18: all", told(x), "250 0 1 0 20 0 5 6 ");
        C.due("28: all LOADS", x.mean(0) * 100 + x.mean(1), 5009);
        C.due("16: a LOOP of eight", x.loop(4, 0, -1), 8);
        C.due("12: no SINK 6", x.load(0, 6), StoneRoads.NONE);
        C.due("12: no SOURCE 5", x.load(5, 0), StoneRoads.NONE);
        for (int rule = 0; rule < 3; rule++) {
            C.due("20: all cost alike", x.best(rule, 2, 0), 250);
        }
        judgeAll(x);
    }

    /** Ten CELLS: from the last SOURCE back to the first SINK, through all that lie between. */
    private static void longestLoop() {
        StoneRoads x = Checks.made("q9,0;q9,0;q9,0;q9,0;q5,0;w5,0;w9,0;w9,0;w9,0;w9,0;r40p0");
        C.due("10: down the stairs", x.start(0), 410);
        C.due("12: down the stairs", Checks.loads(x),
                "5* 4* 0 0 0 0 5* 4* 0 0 0 0 5* 4* 0 0 0 0 5* 4* 0 0 0 0 5*");
        int[] way = {40, 0, 1, 11, 12, 22, 23, 33, 34, 44};
        C.due("16: ten", x.loop(4, 0, -1), way.length);
        C.due("16: TURN of ten", x.loop(4, 0, -2), 5);
        for (int k = 0; k < way.length; k++) {
            C.due("16: number " + k, x.loop(4, 0, k), way[k]);
        }
        C.due("16: number 10", x.loop(4, 0, 10), StoneRoads.NONE);
        for (int manner = 0; manner < 3; manner++) {
            C.due("17: the only one below 0", x.enters(manner), 40);
        }
        C.due("11: one STEP", x.step(2, 100), 1);
        C.due("12: all that turned", Checks.loads(x),
                "0 9* 0 0 0 0 0* 9* 0 0 0 0 0* 9* 0 0 0 0 0* 9* 5* 0 0 0 0*");
        C.due("19: the first of five LEAVES", x.trace(0, 1), 0);
        C.due("18: zeros that are kept", x.told(3), 4);
    }

    /** With six SINKS a row's last CELL stands just ahead of the next row's first: each counts once. */
    private static void rowsBesideTheSpareWork() {
        StoneRoads x = Checks.made("q1,0;q9,0;q9,0;q9,0;q9,0;w5,0;w5,0;w5,0;w5,0;w5,0");
        C.due("10: 25 STONES that cost 10", x.start(0), 250);
        C.due("12: the second row begins with a LOAD", x.load(1, 0), 4);
        C.due("28: 37 STONES in all", x.mean(0) * 100 + x.mean(1), 25037);
        x.renew(0, 0, 0, 5);
        C.due("10: as many", x.start(0), 250);
        C.due("12: the second row begins with 0", x.load(1, 0), 0);
        C.due("13: it is BASIC", x.basic(1, 0), 1);
        C.due("18: the only BASIC one with 0", x.told(3), 1);
        C.due("28: 41 STONES in all", x.mean(0) * 100 + x.mean(1), 25041);
    }

    /** Five of both, and a sixth SOURCE. */
    private static void greatestWithSpareQuarry() {
        StoneRoads x = Checks.made("q5,0;q5,0;q5,0;q5,0;q5,0;w9,0;w9,0;w9,0;w9,0;w9,0");
        C.due("10: all", x.start(0), 250);
        C.due("12: all", Checks.loads(x), "5* 0 0 0 0 4* 1* 0 0 0 0 5* 0 0 0 "
                + "0 3* 2* 0 0 0 0 5* 0 0 0 0 2* 9* 9*");
        C.due("14: all", Checks.worths(x), "0 0 0 0 0 -10 / 10 10 10 10 10");
        C.due("18: all", told(x), "250 0 1 0 20 0 6 5 ");
        C.due("28: all LOADS", x.mean(0) * 100 + x.mean(1), 5009);
        C.due("12: no SOURCE 6", x.load(6, 0), StoneRoads.NONE);
        for (int rule = 0; rule < 3; rule++) {
            C.due("20: all cost alike", x.best(rule, 0, 0), 250);
        }
        judgeAll(x);
        x = Checks.made("q2,0;q1,0;w1,0;w2,0;r10p0");
        x.start(0);
        C.due("18: one in SINK 0 is below 0", told(x), "30 0 0 0 0 1 2 2 ");
    }

    private static String told(StoneRoads x) {
        StringBuilder all = new StringBuilder();
        for (int what = 0; what < 8; what++) {
            all.append(x.told(what)).append(' ');
        }
        return all.toString();
    }

    /** All thirty LOADS, from place 30 on, up to a TAPE's last item. */
    private static void judgeAll(StoneRoads x) {
        x.tape(0, 3, 60);
        int at = 30;
        for (int i = 0; i < x.told(6); i++) {
            for (int j = 0; j < x.told(7); j++) {
                x.item(0, at, x.load(i, j));
                at++;
            }
        }
        C.due("33: thirty CELLS", at, 60);
        C.due("33: all are so", x.judge(0, 30), -5);
        x.item(0, 59, x.peek(0, 59) + 1);
        C.due("33: the last is otherwise", x.judge(0, 30), 29);
    }

    private static void hundredSteps() {
        StoneRoads x = laid(LONG_CORNER, LONG_CORNER_KINDS, LONG_CORNER_BASES);
        x.start(0);
        C.due("11: sixty STEPS", x.step(1, 60), 60);
        C.due("11: forty more, and none behind 100", x.step(1, 100), 40);
        C.due("18: 100 STEPS", x.told(1), 100);
        C.due("18: not PROVED", x.told(2), 0);
        C.due("11: no STEP any more", x.step(0, 1), 0);
        C.due("17: but one would ENTER", x.enters(1) >= 0 ? 1 : 0, 1);
        C.due("19: the last one", x.trace(99, 0) >= 0 ? 1 : 0, 1);
        C.due("19: none behind it", x.trace(100, 0), StoneRoads.NONE);
        C.due("20: there is no BEST", x.best(0, 1, 0), -5);
        C.due("20: nor its STEPS", x.best(0, 1, 1), -5);
        C.due("20: by another MANNER", x.best(0, 0, 1) < 100 ? 1 : 0, 1);
        C.due("11: nor by another MANNER", x.step(0, 100), 0);
        C.due("11: not PROVED, however many STEPS there were", x.rise(0, 0), StoneRoads.STATE);
        x.start(0);
        C.due("11: none of them counts now", x.step(1, 99), 99);
        x.image();
        C.due("11: the hundredth", x.step(1, 100), 1);
        C.due("35: to 99 STEPS", x.undo(), 5);
        C.due("35: they are had", x.told(1), 99);
        C.due("19: the hundredth isn't", x.trace(99, 0), StoneRoads.NONE);
        C.due("11: the hundredth again", x.step(1, 100), 1);
        C.due("35: again", x.undo(), 5);
        C.due("11: a hundred at once", x.start(0) >= 0 ? x.step(1, 100) : 0, 100);
    }
}
