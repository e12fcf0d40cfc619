/** Promises 25 to 32: SEEN, FITS, ODDS, MEAN, the ORDER, the BOOK. */
public final class SeenTest {
    private static final Checks C = new Checks();

    public static void main(String[] args) {
        see();
        fits();
        odds();
        oddsOfEachBase();
        mean();
        order();
        ends();
        endsOfAll();
        book();
        looked();
        C.finish();
    }

    private static void see() {
        StoneRoads x = Checks.made(PlanTest.SPARE_WORK);
        x.start(0);
        C.due("25: no QUARRY", x.see(2, 0, 1), StoneRoads.NONE);
        C.due("25: a SPARE WORK is none", x.see(0, 2, 1), StoneRoads.NONE);
        C.due("25: i -2", x.see(-2, 0, 1), StoneRoads.NONE);
        C.due("25: j -1", x.see(0, -1, 1), StoneRoads.NONE);
        C.due("25: NONE ahead of BAD", x.see(2, 0, 100), StoneRoads.NONE);
        C.due("25: n -1", x.see(0, 0, -1), StoneRoads.BAD);
        C.due("25: n 100", x.see(0, 0, 100), StoneRoads.BAD);
        C.due("25: first", x.see(0, 0, 0), 1);
        C.due("25: the same again", x.see(0, 0, 99), 2);
        C.due("25: third", x.see(1, 1, 1), 3);
        C.due("25: fourth", x.see(1, 1, 1), 4);
        C.due("25: fifth", x.see(1, 1, 1), 5);
        C.due("25: sixth", x.see(1, 1, 1), StoneRoads.FULL);
        C.due("25: sixth and bad", x.see(1, 1, 100), StoneRoads.BAD);
        C.due("25: sixth of none", x.see(5, 1, 1), StoneRoads.NONE);
        C.due("25: five", x.count(3), 5);
        C.due("25: the PLAN stays", x.count(7), 1);
        C.due("25: none, whatever the rest is", x.see(-1, 77, 777), 0);
        C.due("25: none then", x.count(3), 0);
        C.due("25: first again", x.see(1, 0, 5), 1);
    }

    private static void fits() {
        StoneRoads x = Checks.made(PlanTest.SPARE_WORK);
        C.due("26: none is SEEN, all are so", x.fits(0, 1, 0), 31);
        C.due("26: from 0 on", x.fits(0, 1, 1), 0);
        x.see(0, 0, 10);
        C.due("26: all but 0, by which it's 2", x.fits(0, 1, 0), 30);
        C.due("26: from 1 on", x.fits(0, 1, 1), 1);
        C.due("26: 0 0 up to 9; by 10 it is as dear, and has 2", x.fits(0, 0, 0), 10);
        C.due("26: 0 0 from 0 on", x.fits(0, 0, 1), 0);
        x.see(1, 0, 3);
        C.due("26: both are never so", x.fits(0, 1, 0), 0);
        C.due("26: no BASE", x.fits(0, 1, 1), -5);
        C.due("26: what 2", x.fits(0, 1, 2), StoneRoads.NONE);
        C.due("26: what -1", x.fits(0, 1, -1), StoneRoads.NONE);
        C.due("26: no QUARRY", x.fits(2, 0, 0), StoneRoads.NONE);
        C.due("26: no WORK", x.fits(0, 2, 0), StoneRoads.NONE);
        C.due("26: below 0", x.fits(-1, 0, 0), StoneRoads.NONE);
        C.due("26: below 0, too", x.fits(0, -1, 0), StoneRoads.NONE);
        C.due("26: its BASE stays", x.roadOf(0, 1, 1), 6);
        x = Checks.made("q5,0;w3,0;w2,0;r00p30;r01p0");
        x.see(0, 1, 2);
        C.due("26: by all BASES 0 .. 30", x.fits(0, 0, 0), 31);
        // LEAST sends all of QUARRY 0 to the SPARE WORK; only if 0 0 costs 30, too, it stays there.
        x = Checks.made("q5,0;q5,0;w5,0;r00p0;r10p30");
        x.see(0, 0, 0);
        C.due("26: just by 30", x.fits(0, 0, 0), 1);
        C.due("26: 30 is one of them", x.fits(0, 0, 1), 30);
    }

    private static void odds() {
        StoneRoads x = Checks.made(PlanTest.SPARE_WORK);
        C.due("27: by 0 and 10", x.odds(0, 0, 0), 1);
        C.due("27: of ten", x.odds(0, 0, 1), 5);
        C.due("27: part 2", x.odds(0, 0, 2), StoneRoads.NO);
        C.due("27: part -1", x.odds(0, 0, -1), StoneRoads.NO);
        C.due("27: no QUARRY", x.odds(2, 0, 0), StoneRoads.NO);
        C.due("27: no WORK", x.odds(0, 2, 0), StoneRoads.NO);
        C.due("27: below 0", x.odds(-1, 0, 0), StoneRoads.NO);
        C.due("27: below 0, too", x.odds(0, -1, 0), StoneRoads.NO);
        C.due("27: its BASE stays", x.roadOf(0, 0, 1), 4);
        x = Checks.made("q5,0;w5,0");
        C.due("27: always", x.odds(0, 0, 0), 1);
        C.due("27: always, below", x.odds(0, 0, 1), 1);
        C.due("27: a LOAD of 1 is above 0", Checks.made("q1,0;w1,0").odds(0, 0, 0), 1);
        x = Checks.made("q5,0;w0,0");
        C.due("27: never", x.odds(0, 0, 0), 0);
        C.due("27: never, below", x.odds(0, 0, 1), 1);
        // By 0, 10, 20 cheaper than 25, by the others dearer.
        x = Checks.made("q5,0;q5,0;w5,0;r00p77;r10p25");
        C.due("27: three", x.odds(0, 0, 0), 3);
        C.due("27: of ten", x.odds(0, 0, 1), 10);
        x.road(1, 0, 0, 99);
        C.due("27: up to 90", x.odds(0, 0, 0), 1);
    }

    /** One STONE for two WORKS goes where it costs less: so each of the ten BASES is seen to be tried. */
    private static void oddsOfEachBase() {
        String[] due = {"0/1", "1/10", "1/5", "3/10", "2/5", "1/2", "3/5", "7/10", "4/5", "9/10", "1/1"};
        StoneRoads x = Checks.made("q1,0;w1,0;w1,0");
        for (int n = 0; n < 10; n++) {
            x.road(0, 1, 0, 10 * n + 1);
            C.due("27: BASES 0 .. " + 10 * n, x.odds(0, 0, 0) + "/" + x.odds(0, 0, 1), due[n + 1]);
            if (n > 0) {
                x.road(0, 1, 0, 10 * n - 1);
                C.due("27: BASES below " + 10 * n, x.odds(0, 0, 0) + "/" + x.odds(0, 0, 1), due[n]);
            }
        }
        x.road(0, 1, 3, 0);
        C.due("27: what a SHUT ROAD takes nothing from", x.odds(0, 0, 0) + "/" + x.odds(0, 0, 1), due[10]);
        C.due("27: a SHUT ROAD", x.odds(0, 1, 0) + "/" + x.odds(0, 1, 1), due[0]);
    }

    private static void mean() {
        StoneRoads x = Checks.made(PlanTest.SPARE_WORK);
        C.due("28: no PLAN", x.mean(0), StoneRoads.NO);
        x.start(1);
        C.due("28: 169 by 25", x.mean(0), 169);
        C.due("28: below", x.mean(1), 25);
        x.renew(1, 0, 0, 2);
        x.renew(1, 1, 0, 0);
        x.start(0);
        C.due("28: 8 by 25", x.mean(0) * 100 + x.mean(1), 825);
        x.renew(1, 0, 0, 10);
        x.start(0);
        C.due("28: 40 by 25, in lowest terms", x.mean(0), 8);
        C.due("28: below, in lowest terms", x.mean(1), 5);
        C.due("28: part 2", x.mean(2), StoneRoads.NO);
        C.due("28: part -1", x.mean(-1), StoneRoads.NO);
        StoneRoads one = Checks.made("q1,0;w1,0");
        one.start(0);
        C.due("28: 10 by 1", one.mean(0) * 10 + one.mean(1), 101);
        StoneRoads y = Checks.made(PlanTest.ZEROS);
        y.start(0);
        C.due("28: all LOADS are 0", y.mean(0), StoneRoads.NO);
        C.due("28: all LOADS are 0, too", y.mean(1), StoneRoads.NO);
        StoneRoads z = Checks.made("q3,0;w0,0");
        z.start(0);
        C.due("28: what goes to the SPARE one is a LOAD", z.mean(0), 0);
        C.due("28: 0 by 3 in lowest terms", z.mean(1), 1);
    }

    private static void order() {
        StoneRoads x = Checks.made("q5,1;q6,1;w5,1");
        C.due("29: what 4", x.order(4, 0), StoneRoads.NONE);
        C.due("29: what -2", x.order(-2, 0), StoneRoads.NONE);
        C.due("29: no QUARRY 2", x.order(0, 2), StoneRoads.NONE);
        C.due("29: no QUARRY -1", x.order(0, -1), StoneRoads.NONE);
        C.due("29: no WORK 1", x.order(1, 1), StoneRoads.NONE);
        C.due("29: no ROAD 1", x.order(2, 1), StoneRoads.NONE);
        C.due("29: no ROAD 20", x.order(2, 20), StoneRoads.NONE);
        C.due("29: no ROAD -10", x.order(2, -10), StoneRoads.NONE);
        C.due("29: no ROAD -1", x.order(2, -1), StoneRoads.NONE);
        C.due("29: no ROAD so far off", x.order(2, Integer.MAX_VALUE), StoneRoads.NONE);
        C.due("29: no ROAD so far below", x.order(2, Integer.MIN_VALUE), StoneRoads.NONE);
        C.due("29: no TOLL of 2", x.order(3, 2), StoneRoads.NONE);
        C.due("29: none has come", x.count(4), 0);
        C.due("29: a STONE", x.order(0, 1), 1);
        C.due("29: one wanted", x.order(1, 0), 2);
        C.due("29: a ROAD", x.order(2, 10), 3);
        C.due("29: a TOLL", x.order(3, 1), 4);
        for (int n = 5; n <= 8; n++) {
            C.due("29: row " + n, x.order(0, 0), n);
        }
        C.due("29: the ninth", x.order(0, 0), StoneRoads.FULL);
        C.due("29: the ninth and none", x.order(0, 3), StoneRoads.NONE);
        C.due("29: eight", x.count(4), 8);
        C.due("29: nothing has happened", x.of(0, 1, 0) * 10 + x.of(0, 1, 1), 61);
        C.due("29: empty, whatever the rest is", x.order(-1, 999), 0);
        C.due("29: empty then", x.count(4), 0);
        C.due("29: ROAD 0", x.order(2, 0), 1);
    }

    private static void ends() {
        StoneRoads x = Checks.made(PlanTest.SPARE_WORK);
        C.due("30: what 3", x.ends(3), StoneRoads.NONE);
        C.due("30: what -1", x.ends(-1), StoneRoads.NONE);
        C.due("30: an empty ORDER", x.ends(0), 134);
        C.due("30: five STONES", x.ends(1), 5);
        C.due("30: all is had", x.ends(2), 0);
        x.order(0, 0);
        C.due("30: another one from 0 to 0", x.ends(0), 127);
        C.due("30: six STONES", x.ends(1), 6);
        x.order(1, 1);
        C.due("30: one more wanted", x.ends(0), 136);
        C.due("30: five STONES again", x.ends(1), 5);
        x.order(2, 10);
        C.due("30: one STONE must take the SHUT ROAD", x.ends(0), 44 + 1000 + 81);
        x.order(-1, 0);
        x.road(0, 0, 1, 4);
        C.due("30: TOLLED", x.ends(0), 154);
        x.order(3, 0);
        C.due("30: TOLL 0", x.ends(0), 134);
        C.due("30: the TOLL stays", x.of(0, 0, 1), 2);
        x.order(3, 0);
        C.due("30: TOLL 0 twice", x.ends(0), 134);
        C.due("30: no PLAN comes by that", x.count(7), 0);
    }

    private static void endsOfAll() {
        StoneRoads x = Checks.made("q98,0;w97,0;r00p1");
        x.order(0, 0);
        x.order(0, 0);
        x.order(0, 0);
        C.due("30: 99 at most", x.ends(1), 2);
        for (int n = 0; n < 5; n++) {
            x.order(1, 0);
        }
        C.due("30: both 99 at most", x.ends(1) * 10 + x.ends(2), 0);
        C.due("30: 99 go", x.ends(0), 99);
        x.order(-1, 0);
        x.order(1, 0);
        x.order(1, 0);
        C.due("30: one is wanted that nobody has", x.ends(2), 1);
        C.due("30: no STONES are left", x.ends(1), 0);
        StoneRoads y = new StoneRoads();
        y.quarry(7, 0);
        C.due("30: no WORK", y.ends(0), -5);
        C.due("30: nobody wants seven", y.ends(1), 7);
        StoneRoads z = new StoneRoads();
        z.work(6, 0);
        C.due("30: no QUARRY", z.ends(0), -5);
        C.due("30: nobody has six", z.ends(2), 6);
        C.due("30: nothing at all", new StoneRoads().ends(1), 0);
    }

    private static void book() {
        StoneRoads x = Checks.made(PlanTest.SPARE_WORK);
        C.due("31: no QUARRY", x.book(2, 0, 1), StoneRoads.NONE);
        C.due("31: a SPARE WORK is none", x.book(0, 2, 1), StoneRoads.NONE);
        C.due("31: i -2", x.book(-2, 0, 1), StoneRoads.NONE);
        C.due("31: j -1", x.book(0, -1, 1), StoneRoads.NONE);
        C.due("31: NONE ahead of BAD", x.book(2, 0, 100), StoneRoads.NONE);
        C.due("31: n -1", x.book(0, 0, -1), StoneRoads.BAD);
        C.due("31: n 100", x.book(0, 0, 100), StoneRoads.BAD);
        for (int n = 1; n <= 8; n++) {
            C.due("31: row " + n, x.book(n % 2, 1, n == 8 ? 99 : 0), n);
        }
        C.due("31: the ninth", x.book(0, 0, 0), StoneRoads.FULL);
        C.due("31: the ninth and bad", x.book(0, 0, 100), StoneRoads.BAD);
        C.due("31: eight", x.count(5), 8);
        C.due("31: empty, whatever the rest is", x.book(-1, -5, -9), 0);
        C.due("31: empty then", x.count(5), 0);
    }

    private static void looked() {
        StoneRoads x = Checks.made(PlanTest.SPARE_WORK);
        x.book(0, 0, 10);
        C.due("32: no PLAN", x.looked(), StoneRoads.STATE);
        x.start(0);
        C.due("32: so it is", x.looked(), -5);
        x.book(1, 0, 2);
        x.book(0, 1, 0);
        C.due("32: so they are", x.looked(), -5);
        x.book(1, 1, 7);
        x.book(1, 1, 9);
        C.due("32: row 3 is otherwise", x.looked(), 3);
        x.start(1);
        C.due("32: row 0 is otherwise by LEAST", x.looked(), 0);
        x.book(-1, 0, 0);
        C.due("32: an empty BOOK", x.looked(), -5);
        C.due("31: the PLAN stays", x.count(7), 1);
    }
}
