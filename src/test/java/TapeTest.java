/** Promises 33 to 40: judging, THE IMAGE, counts, TAPES. */
public final class TapeTest {
    private static final Checks C = new Checks();

    public static void main(String[] args) {
        judge();
        judgeTooShort();
        image();
        imageKeepsAll();
        count();
        tape();
        item();
        peek();
        shift();
        shiftOver();
        C.finish();
    }

    private static void put(StoneRoads x, int tape, int from, int... items) {
        for (int k = 0; k < items.length; k++) {
            C.due("an item", x.item(tape, from + k, items[k]), 1);
        }
    }

    private static void judge() {
        StoneRoads x = Checks.made(PlanTest.SPARE_WORK);
        C.due("33: tape 6", x.judge(6, 0), StoneRoads.NONE);
        C.due("33: tape -1", x.judge(-1, 0), StoneRoads.NONE);
        C.due("33: no PLAN", x.judge(0, 0), StoneRoads.STATE);
        x.tape(1, 2, 9);
        C.due("33: no PLAN ahead of CAST", x.judge(1, 0), StoneRoads.STATE);
        x.start(0);
        C.due("33: ints", x.judge(1, 0), -12);
        C.due("33: ints, place below 0", x.judge(1, -1), -12);
        C.due("33: nothing", x.judge(0, 0), 100);
        C.due("33: nothing, place below 0", x.judge(0, -1), 100);
        x.tape(0, 3, 8);
        put(x, 0, 2, 10, 0, 0, 2, 8, 5);
        C.due("33: all are so", x.judge(0, 2), -5);
        C.due("33: the row's end is no matter then", x.item(0, 0, 99), 1);
        C.due("33: the first is otherwise", x.judge(0, 1), 0);
        put(x, 0, 7, 4);
        C.due("33: the last is otherwise", x.judge(0, 2), 5);
        put(x, 0, 4, 1);
        C.due("33: the first of several", x.judge(0, 2), 2);
        x.item(0, 4, 1L << 32);
        C.due("33: it is a long", x.judge(0, 2), 2);
        int[] sorts = {0, 1, 4};
        for (int sort : sorts) {
            x.tape(2, sort, 6);
            C.due("33: sort " + sort, x.judge(2, 0), -12);
        }
    }

    private static void judgeTooShort() {
        StoneRoads x = Checks.made(PlanTest.SPARE_WORK);
        x.start(0);
        x.tape(0, 3, 4);
        put(x, 0, 0, 10, 0, 0, 2);
        C.due("33: four were looked at", x.judge(0, 0), 104);
        C.due("33: otherwise ahead of the end", x.judge(0, 1), 0);
        C.due("33: the place is the end", x.judge(0, 4), 100);
        C.due("33: the place is beyond the end", x.judge(0, 5), 100);
        C.due("33: far beyond", x.judge(0, Integer.MAX_VALUE), 100);
        C.due("33: below 0", x.judge(0, -1), 100);
        C.due("33: far below", x.judge(0, Integer.MIN_VALUE), 100);
        x.tape(0, 3, 0);
        C.due("33: an empty row", x.judge(0, 0), 100);
    }

    private static void image() {
        StoneRoads x = Checks.made("q1,1;q2,2;w3,3");
        C.due("35: there is none", x.undo(), StoneRoads.STATE);
        C.due("34: two", x.image(), 2);
        x.quarry(4, 4);
        x.work(5, 5);
        C.due("35: two", x.undo(), 2);
        C.due("35: QUARRIES", x.count(0), 2);
        C.due("35: WORKS", x.count(1), 1);
        C.due("35: a new one comes behind them", x.quarry(6, 6), 2);
        C.due("35: its ROAD is as at first", x.roadOf(2, 0, 1), 10);
        C.due("35: THE IMAGE stays", x.undo(), 2);
        C.due("35: QUARRIES again", x.count(0), 2);
        C.due("34: of nothing", new StoneRoads().image(), 0);
        StoneRoads y = new StoneRoads();
        y.image();
        y.quarry(1, 1);
        y.image();
        y.quarry(1, 1);
        C.due("34: the later one holds", y.undo(), 1);
    }

    private static void imageKeepsAll() {
        StoneRoads x = Checks.made(PlanTest.SPARE_WORK);
        x.see(0, 0, 10);
        x.order(0, 1);
        x.book(1, 1, 8);
        x.start(1);
        x.step(1, 1);
        x.tape(0, 3, 5);
        x.image();
        spoil(x);
        C.due("35: QUARRIES", x.undo(), 2);
        C.due("35: STONES", x.of(0, 0, 0) * 10 + x.of(0, 0, 1), 102);
        C.due("35: WANTS", x.of(1, 1, 0) * 10 + x.of(1, 1, 1), 83);
        C.due("35: a ROAD", x.roadOf(0, 1, 0) * 100 + x.roadOf(0, 1, 1), 106);
        C.due("35: LOADS", Checks.loads(x), "10* 0 0 2* 8* 5*");
        C.due("35: WORTHS", Checks.worths(x), "0 7 / 4 2 -7");
        C.due("35: STEPS", x.told(1), 1);
        C.due("35: what ENTERED", x.trace(0, 0), 12);
        C.due("35: what LEFT", x.trace(0, 1), 2);
        C.due("35: TURN", x.trace(0, 2), 5);
        C.due("35: SEEN", x.count(3), 1);
        C.due("35: SEEN is so", x.fits(0, 1, 0), 30);
        C.due("35: the ORDER", x.count(4), 1);
        C.due("35: what happens", x.ends(1), 6);
        C.due("35: the BOOK", x.count(5), 1);
        C.due("35: the BOOK is so", x.looked(), -5);
        C.due("35: THE TEXT isn't in it", x.count(6), 1);
        C.due("35: TAPES aren't in it", x.peek(0, 0), 7);
        x.start(0);
        x.undo();
        C.due("35: the PLAN is its own", x.told(1), 1);
        x.step(0, 0);
        x.renew(0, 0, 0, 99);
        x.image();
        x.start(0);
        x.undo();
        C.due("35: no PLAN, as there was none", x.count(7), 0);
    }

    private static void spoil(StoneRoads x) {
        x.renew(0, 0, 0, 1);
        x.renew(0, 0, 1, 1);
        x.renew(1, 1, 0, 1);
        x.renew(1, 1, 1, 1);
        x.road(0, 1, 3, 99);
        x.road(0, 0, 2, 55);
        x.road(1, 1, 2, 66);
        x.quarry(3, 3);
        x.start(0);
        x.step(0, 100);
        x.see(-1, 0, 0);
        x.see(1, 1, 77);
        x.see(1, 1, 78);
        x.order(-1, 0);
        x.order(1, 0);
        x.order(1, 0);
        x.book(-1, 0, 0);
        x.book(0, 0, 77);
        x.book(0, 0, 77);
        x.feed('q');
        x.item(0, 0, 7);
    }

    private static void count() {
        StoneRoads x = Checks.made("q1,1;q2,2;w3,3;r00x1;r10x2");
        C.due("36: QUARRIES", x.count(0), 2);
        C.due("36: WORKS", x.count(1), 1);
        C.due("36: SHUT", x.count(2), 2);
        C.due("36: what -1", x.count(-1), StoneRoads.BAD);
        C.due("36: what 8", x.count(8), StoneRoads.BAD);
        x.road(0, 0, 2, 1);
        C.due("36: SHUT no more", x.count(2), 1);
        x.see(0, 0, 1);
        x.see(0, 0, 1);
        x.see(0, 0, 1);
        x.order(0, 0);
        x.order(0, 0);
        x.book(0, 0, 1);
        x.feed(1);
        x.feed(1);
        x.feed(1);
        x.feed(1);
        C.due("36: SEEN", x.count(3), 3);
        C.due("36: of the ORDER", x.count(4), 2);
        C.due("36: of the BOOK", x.count(5), 1);
        C.due("36: bytes", x.count(6), 4);
        C.due("36: no PLAN", x.count(7), 0);
        x.start(0);
        C.due("36: a PLAN", x.count(7), 1);
    }

    private static void tape() {
        StoneRoads x = new StoneRoads();
        C.due("37: tape 6", x.tape(6, 0, 1), StoneRoads.NONE);
        C.due("37: tape -1", x.tape(-1, 0, 1), StoneRoads.NONE);
        C.due("37: NONE ahead of BAD", x.tape(6, 9, 99), StoneRoads.NONE);
        C.due("37: sort 5", x.tape(0, 5, 1), StoneRoads.BAD);
        C.due("37: sort -2", x.tape(0, -2, 1), StoneRoads.BAD);
        C.due("37: sort 5 ahead of SIZE", x.tape(0, 5, -1), StoneRoads.BAD);
        C.due("37: n 61", x.tape(0, 0, 61), StoneRoads.BAD);
        C.due("37: n -1", x.tape(0, 0, -1), -14);
        C.due("37: n far below", x.tape(0, 0, Integer.MIN_VALUE), -14);
        C.due("37: nothing is there", x.item(0, 0, 1), -11);
        for (int sort = 0; sort < 5; sort++) {
            C.due("37: sort " + sort, x.tape(sort, sort, 60), 1);
            C.due("37: the last item", x.peek(sort, 59), 0);
            C.due("37: none behind it", x.peek(sort, 60), StoneRoads.NO);
        }
        x.item(2, 1, 5);
        C.due("37: anew", x.tape(2, 2, 2), 1);
        C.due("37: all 0 then", x.peek(2, 1), 0);
        C.due("37: a refused one leaves it", x.tape(2, 2, 61), StoneRoads.BAD);
        C.due("37: it is there", x.peek(2, 1), 0);
        C.due("37: nothing, n does not matter", x.tape(2, -1, 99), 1);
        C.due("37: nothing, n -1", x.tape(3, -1, -1), 1);
        C.due("37: nothing then", x.peek(2, 0), StoneRoads.NO);
        C.due("37: nothing then, too", x.item(3, 0, 0), -11);
        C.due("37: n 0", x.tape(5, 3, 0), 1);
        C.due("37: no place", x.item(5, 0, 0), -13);
    }

    private static void item() {
        StoneRoads x = new StoneRoads();
        C.due("38: tape 6", x.item(6, 0, 1), StoneRoads.NONE);
        C.due("38: tape -1", x.item(-1, 0, 1), StoneRoads.NONE);
        C.due("38: nothing", x.item(0, -1, 1), -11);
        for (int sort = 0; sort < 5; sort++) {
            x.tape(sort, sort, 3);
            C.due("38: place -1", x.item(sort, -1, 1), -13);
            C.due("38: place 3", x.item(sort, 3, 1), -13);
        }
        long[] given = {-1, 1, 128, 0x8000, 1L << 31, 1L << 63, 1L << 40, 0x1234567890L};
        long[][] due = {
            {-1, 1, -128, 0, 0, 0, 0, 0xffffffffffffff90L},
            {-1, 1, 128, -32768, 0, 0, 0, 0x7890L},
            {-1, 1, 128, 32768, Integer.MIN_VALUE, 0, 0, 0x34567890L},
            {-1, 1, 128, 32768, 1L << 31, 1L << 63, 1L << 40, 0x1234567890L}};
        due[1][7] = (short) 0x7890;
        for (int sort = 0; sort < 4; sort++) {
            for (int k = 0; k < given.length; k++) {
                C.due("38: an item", x.item(sort, 2, given[k]), 1);
                C.due("38: sort " + sort + ", " + given[k], x.peek(sort, 2), due[sort][k]);
            }
        }
        for (long v : given) {
            x.item(4, 1, v);
            C.due("38: a boolean of " + v, x.peek(4, 1), 1);
        }
        x.item(4, 1, 0);
        C.due("38: a boolean of 0", x.peek(4, 1), 0);
    }

    private static void peek() {
        StoneRoads x = new StoneRoads();
        x.tape(0, 3, 2);
        x.item(0, 1, 42);
        C.due("39: item 1", x.peek(0, 1), 42);
        C.due("39: item 0", x.peek(0, 0), 0);
        C.due("39: place 2", x.peek(0, 2), StoneRoads.NO);
        C.due("39: place -1", x.peek(0, -1), StoneRoads.NO);
        C.due("39: nothing", x.peek(1, 0), StoneRoads.NO);
        C.due("39: tape 6", x.peek(6, 0), StoneRoads.NO);
        C.due("39: tape -1", x.peek(-1, 0), StoneRoads.NO);
    }

    private static String row(StoneRoads x, int tape, int n) {
        StringBuilder all = new StringBuilder();
        for (int k = 0; k < n; k++) {
            all.append(x.peek(tape, k)).append(' ');
        }
        return all.toString().trim();
    }

    private static void shift() {
        StoneRoads x = new StoneRoads();
        x.tape(0, 2, 5);
        put(x, 0, 0, 1, 2, 3, 4, 5);
        C.due("40: tape 6", x.shift(6, 0, 0, 0, 0), StoneRoads.NONE);
        C.due("40: tape -1", x.shift(-1, 0, 0, 0, 0), StoneRoads.NONE);
        C.due("40: other 6", x.shift(0, 0, 6, 0, 0), StoneRoads.NONE);
        C.due("40: other -1", x.shift(0, 0, -1, 0, 0), StoneRoads.NONE);
        C.due("40: nothing there", x.shift(0, 0, 1, 0, -1), -11);
        C.due("40: nothing here", x.shift(1, 0, 0, 0, -1), -11);
        C.due("40: nothing at all", x.shift(1, 0, 1, 0, 0), -11);
        x.tape(1, 3, 5);
        C.due("40: unlike sorts", x.shift(0, 0, 1, 0, 1), -12);
        C.due("40: CAST ahead of PLACE", x.shift(0, -1, 1, 0, 1), -12);
        x.tape(1, 2, 3);
        C.due("40: two items", x.shift(0, 1, 1, 0, 2), 2);
        C.due("40: they are there", row(x, 1, 3), "2 3 0");
        C.due("40: and here", row(x, 0, 5), "1 2 3 4 5");
        C.due("40: all three", x.shift(0, 2, 1, 0, 3), 3);
        C.due("40: up to both ends", row(x, 1, 3), "3 4 5");
        C.due("40: none, at both ends", x.shift(0, 5, 1, 3, 0), 0);
        int[][] wrong = {{-1, 0, 1}, {0, -1, 1}, {0, 0, -1}, {3, 0, 3}, {0, 1, 3}, {6, 0, 0}, {0, 4, 0},
            {Integer.MAX_VALUE, 0, 1}, {0, Integer.MAX_VALUE, 1}, {1, 1, Integer.MAX_VALUE},
            {Integer.MIN_VALUE, 0, Integer.MIN_VALUE}};
        for (int[] row : wrong) {
            C.due("40: " + row[0] + " " + row[1] + " " + row[2], x.shift(0, row[0], 1, row[1], row[2]), -13);
        }
        C.due("40: nothing has changed", row(x, 1, 3), "3 4 5");
    }

    private static void shiftOver() {
        StoneRoads x = new StoneRoads();
        for (int sort = 0; sort < 4; sort++) {
            x.tape(0, sort, 5);
            put(x, 0, 0, 1, 2, 3, 4, 5);
            C.due("40: onto itself", x.shift(0, 0, 0, 1, 4), 4);
            C.due("40: as they were before", row(x, 0, 5), "1 1 2 3 4");
            C.due("40: onto itself, down", x.shift(0, 1, 0, 0, 4), 4);
            C.due("40: as they were before", row(x, 0, 5), "1 2 3 4 4");
        }
        x.tape(0, 4, 3);
        put(x, 0, 0, 1, 0, 1);
        x.tape(1, 4, 3);
        C.due("40: booleans", x.shift(0, 0, 1, 0, 3), 3);
        C.due("40: they are there", row(x, 1, 3), "1 0 1");
    }
}
