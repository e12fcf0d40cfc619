import java.util.regex.Matcher;
import java.util.regex.Pattern;

/** Promises 1 to 9: quarries, works, roads, set-ups read from texts. */
public final class GroundTest {
    private static final Checks C = new Checks();
    private static final String CLAUSE = "([qw][0-9]{1,2},[0-9]|r[0-9][0-9][ptsx][0-9]{1,2})";
    private static final Pattern SET_UP = Pattern.compile(CLAUSE + "(;" + CLAUSE + "){0,11}");
    private static final String TWELVE =
            "q9,0;q10,0;q0,0;q00,9;q5,5;w7,7;w77,7;r00p0;r99x99;r14s5;r00t05;w0,0";

    public static void main(String[] args) {
        newObject();
        quarries();
        works();
        renewed();
        roads();
        asked();
        costs();
        planGoes();
        fed();
        setUps();
        faults();
        everyEnd();
        everySign();
        refusedClauses();
        planGoesByClauses();
        C.finish();
    }

    private static void newObject() {
        StoneRoads x = new StoneRoads();
        for (int what = 0; what < 8; what++) {
            C.due("1: count " + what, x.count(what), 0);
        }
        C.due("1: of", x.of(0, 0, 0), StoneRoads.NONE);
        C.due("1: of a work", x.of(1, 0, 0), StoneRoads.NONE);
        C.due("1: roadOf", x.roadOf(0, 0, 0), StoneRoads.NONE);
        C.due("1: start", x.start(0), StoneRoads.STATE);
        C.due("1: peek", x.peek(0, 0), StoneRoads.NO);
        C.due("1: undo", x.undo(), StoneRoads.STATE);
        C.due("1: another one is not the same", new StoneRoads().quarry(1, 1), 0);
    }

    private static void quarries() {
        StoneRoads x = new StoneRoads();
        C.due("2: stones -1", x.quarry(-1, 0), StoneRoads.BAD);
        C.due("2: stones 100", x.quarry(100, 0), StoneRoads.BAD);
        C.due("2: toll -1", x.quarry(0, -1), StoneRoads.BAD);
        C.due("2: toll 10", x.quarry(0, 10), StoneRoads.BAD);
        C.due("2: none has come", x.count(0), 0);
        C.due("2: first", x.quarry(0, 9), 0);
        C.due("2: second", x.quarry(99, 0), 1);
        x.quarry(3, 3);
        x.quarry(4, 4);
        C.due("2: fifth", x.quarry(5, 5), 4);
        C.due("2: sixth", x.quarry(6, 6), StoneRoads.FULL);
        C.due("2: sixth and bad", x.quarry(100, 6), StoneRoads.BAD);
        C.due("2: five", x.count(0), 5);
        C.due("2: stones of 1", x.of(0, 1, 0), 99);
        C.due("2: toll of 0", x.of(0, 0, 1), 9);
        C.due("2: stones of 4", x.of(0, 4, 0), 5);
    }

    private static void works() {
        StoneRoads x = new StoneRoads();
        C.due("3: wants -1", x.work(-1, 0), StoneRoads.BAD);
        C.due("3: wants 100", x.work(100, 0), StoneRoads.BAD);
        C.due("3: fee -1", x.work(0, -1), StoneRoads.BAD);
        C.due("3: fee 10", x.work(0, 10), StoneRoads.BAD);
        C.due("3: first", x.work(0, 9), 0);
        C.due("3: second", x.work(99, 0), 1);
        x.work(3, 3);
        x.work(4, 4);
        C.due("3: fifth", x.work(5, 6), 4);
        C.due("3: sixth", x.work(6, 6), StoneRoads.FULL);
        C.due("3: sixth and bad", x.work(1, 11), StoneRoads.BAD);
        C.due("3: five", x.count(1), 5);
        C.due("3: no quarry", x.count(0), 0);
        C.due("3: wants of 4", x.of(1, 4, 0), 5);
        C.due("3: fee of 4", x.of(1, 4, 1), 6);
    }

    private static void renewed() {
        StoneRoads x = Checks.made("q10,2;q20,3;w30,4");
        C.due("4: stones", x.renew(0, 1, 0, 99), 20);
        C.due("4: toll", x.renew(0, 0, 1, 9), 2);
        C.due("4: wants", x.renew(1, 0, 0, 0), 30);
        C.due("4: fee", x.renew(1, 0, 1, 0), 4);
        C.due("4: stones are", x.of(0, 1, 0), 99);
        C.due("4: toll is", x.of(0, 0, 1), 9);
        C.due("4: wants are", x.of(1, 0, 0), 0);
        C.due("4: fee is", x.of(1, 0, 1), 0);
        C.due("4: others are as they were", x.of(0, 0, 0), 10);
        C.due("4: side 2", x.renew(2, 0, 0, 1), StoneRoads.NONE);
        C.due("4: side -1", x.renew(-1, 0, 0, 1), StoneRoads.NONE);
        C.due("4: k 2", x.renew(0, 2, 0, 1), StoneRoads.NONE);
        C.due("4: k -1", x.renew(0, -1, 0, 1), StoneRoads.NONE);
        C.due("4: work 1", x.renew(1, 1, 0, 1), StoneRoads.NONE);
        C.due("4: what 2", x.renew(0, 0, 2, 1), StoneRoads.NONE);
        C.due("4: what -1", x.renew(0, 0, -1, 1), StoneRoads.NONE);
        C.due("4: NONE ahead of BAD", x.renew(0, 2, 0, 100), StoneRoads.NONE);
        C.due("4: stones 100", x.renew(0, 0, 0, 100), StoneRoads.BAD);
        C.due("4: stones -1", x.renew(0, 0, 0, -1), StoneRoads.BAD);
        C.due("4: toll 10", x.renew(0, 0, 1, 10), StoneRoads.BAD);
        C.due("4: fee 10", x.renew(1, 0, 1, 10), StoneRoads.BAD);
        C.due("4: wants 100", x.renew(1, 0, 0, 100), StoneRoads.BAD);
        C.due("4: stones as they were", x.of(0, 0, 0), 10);
    }

    private static void roads() {
        StoneRoads x = Checks.made("q10,2;q20,3;w30,4");
        C.due("5: at first", x.road(1, 0, 2, 99), 10);
        C.due("5: then", x.road(1, 0, 3, 0), 299);
        C.due("5: then again", x.road(1, 0, 0, 7), 300);
        C.due("5: kind 4", x.road(1, 0, 4, 7), StoneRoads.BAD);
        C.due("5: kind -1", x.road(1, 0, -1, 7), StoneRoads.BAD);
        C.due("5: base 100", x.road(1, 0, 1, 100), StoneRoads.BAD);
        C.due("5: base -1", x.road(1, 0, 1, -1), StoneRoads.BAD);
        C.due("5: no quarry", x.road(2, 0, 0, 7), StoneRoads.NONE);
        C.due("5: no work", x.road(0, 1, 0, 7), StoneRoads.NONE);
        C.due("5: below 0", x.road(-1, 0, 0, 7), StoneRoads.NONE);
        C.due("5: below 0, too", x.road(0, -1, 0, 7), StoneRoads.NONE);
        C.due("5: NONE ahead of BAD", x.road(2, 0, 9, 7), StoneRoads.NONE);
        C.due("5: as it was", x.roadOf(1, 0, 1), 7);
        C.due("5: the other one", x.roadOf(0, 0, 1), 10);
    }

    private static void asked() {
        StoneRoads x = Checks.made("q10,2;w30,4;w31,5");
        C.due("6: stones", x.of(0, 0, 0), 10);
        C.due("6: toll", x.of(0, 0, 1), 2);
        C.due("6: wants", x.of(1, 1, 0), 31);
        C.due("6: fee", x.of(1, 1, 1), 5);
        C.due("6: quarry 1", x.of(0, 1, 0), StoneRoads.NONE);
        C.due("6: work 2", x.of(1, 2, 0), StoneRoads.NONE);
        C.due("6: k -1", x.of(1, -1, 0), StoneRoads.NONE);
        C.due("6: side 2", x.of(2, 0, 0), StoneRoads.NONE);
        C.due("6: side -1", x.of(-1, 0, 0), StoneRoads.NONE);
        C.due("6: what 2", x.of(0, 0, 2), StoneRoads.NONE);
        C.due("6: what -1", x.of(0, 0, -1), StoneRoads.NONE);
    }

    private static void costs() {
        StoneRoads x = Checks.made("q10,2;w30,4;w31,5");
        C.due("7: PLAIN at first", x.roadOf(0, 0, 0), 0);
        C.due("7: BASE at first", x.roadOf(0, 0, 1), 10);
        C.due("7: COST at first", x.roadOf(0, 0, 2), 10);
        x.road(0, 1, 1, 7);
        C.due("7: TOLLED", x.roadOf(0, 1, 2), 9);
        x.road(0, 1, 2, 7);
        C.due("7: STEEP", x.roadOf(0, 1, 2), 23);
        C.due("7: STEEP's KIND", x.roadOf(0, 1, 0), 2);
        x.road(0, 1, 3, 7);
        C.due("7: SHUT", x.roadOf(0, 1, 2), 1000);
        C.due("7: SHUT's BASE", x.roadOf(0, 1, 1), 7);
        x.road(0, 0, 2, 99);
        x.renew(0, 0, 1, 9);
        x.renew(1, 0, 1, 9);
        C.due("7: the dearest STEEP", x.roadOf(0, 0, 2), 225);
        C.due("7: what 3", x.roadOf(0, 0, 3), StoneRoads.NONE);
        C.due("7: what -1", x.roadOf(0, 0, -1), StoneRoads.NONE);
        C.due("7: no quarry", x.roadOf(1, 0, 0), StoneRoads.NONE);
        C.due("7: no work", x.roadOf(0, 2, 0), StoneRoads.NONE);
        C.due("7: below 0", x.roadOf(-1, 0, 0), StoneRoads.NONE);
        C.due("7: below 0, too", x.roadOf(0, -1, 0), StoneRoads.NONE);
    }

    /** There is no PLAN any more as soon as something is told anew, and only then. */
    private static void planGoes() {
        StoneRoads x = Checks.made("q10,2;w30,4");
        x.start(0);
        x.quarry(100, 0);
        x.work(0, 10);
        x.renew(0, 0, 0, 100);
        x.renew(0, 5, 0, 1);
        x.road(0, 0, 4, 0);
        x.road(5, 0, 0, 0);
        Checks.read(x, "r44p1");
        Checks.read(x, "q1,1;");
        Checks.read(x, "");
        C.due("a refused call leaves the PLAN", x.count(7), 1);
        x.renew(0, 0, 0, 10);
        C.due("4: no PLAN, though it stays as it was", x.count(7), 0);
        x.start(0);
        x.road(0, 0, 0, 10);
        C.due("5: no PLAN, though it stays as it was", x.count(7), 0);
        x.start(0);
        x.quarry(0, 0);
        C.due("2: no PLAN", x.count(7), 0);
        x.start(0);
        x.work(0, 0);
        C.due("3: no PLAN", x.count(7), 0);
        x.start(0);
        Checks.read(x, "r44p1;r00p10");
        C.due("9: no PLAN", x.count(7), 0);
    }

    private static void fed() {
        StoneRoads x = new StoneRoads();
        C.due("8: -1", x.feed(-1), StoneRoads.BAD);
        C.due("8: 128", x.feed(128), StoneRoads.BAD);
        C.due("8: 0", x.feed(0), 1);
        C.due("8: 127", x.feed(127), 2);
        for (int k = 3; k <= 100; k++) {
            C.due("8: the " + k + "th", x.feed('q'), k);
        }
        C.due("8: the 101st", x.feed('q'), StoneRoads.FULL);
        C.due("8: the 101st and bad", x.feed(128), StoneRoads.BAD);
        C.due("8: bytes", x.count(6), 100);
        C.due("9: a fault at 0", x.read(), -10);
        C.due("9: empty then", x.count(6), 0);
        C.due("8: again", x.feed('q'), 1);
    }

    private static void setUps() {
        StoneRoads x = new StoneRoads();
        C.due("9: all sorts", Checks.read(x, "q5,3;q07,0;w99,9;w0,4;r00p1;r01t22;r10s3;r11x99"), 8);
        C.due("9: empty then", x.count(6), 0);
        C.due("9: quarries", x.count(0), 2);
        C.due("9: stones 0", x.of(0, 0, 0), 5);
        C.due("9: toll 0", x.of(0, 0, 1), 3);
        C.due("9: stones 1", x.of(0, 1, 0), 7);
        C.due("9: toll 1", x.of(0, 1, 1), 0);
        C.due("9: wants 0", x.of(1, 0, 0), 99);
        C.due("9: fee 0", x.of(1, 0, 1), 9);
        C.due("9: wants 1", x.of(1, 1, 0), 0);
        C.due("9: p", x.road(0, 0, 0, 0), 1);
        C.due("9: t", x.road(0, 1, 0, 0), 122);
        C.due("9: s", x.road(1, 0, 0, 0), 203);
        C.due("9: x", x.road(1, 1, 0, 0), 399);
        C.due("9: one CLAUSE", Checks.read(x, "r00p0"), 1);
        C.due("9: twelve CLAUSES", Checks.read(x,
                "r00p1;r00p2;r00p3;r00p4;r00p5;r00p6;r00p7;r00p8;r00p9;r00p10;r00p11;r00s12"), 12);
        C.due("9: the last one holds", x.road(0, 0, 0, 0), 212);
    }

    private static void fault(String text, int place) {
        StoneRoads x = Checks.made("q1,1;w1,1");
        x.start(0);
        C.due("9: " + text, Checks.read(x, text), -10 - place);
        C.due("9: empty behind " + text, x.count(6), 0);
        C.due("9: nothing is done of " + text, 10 * x.count(0) + x.count(1), 11);
        C.due("9: nothing is done of " + text, x.roadOf(0, 0, 1), 10);
        C.due("9: the PLAN stays behind " + text, x.count(7), 1);
    }

    private static void faults() {
        fault("", 0);
        fault(";", 0);
        fault("Q1,1", 0);
        fault(" q1,1", 0);
        fault("q", 1);
        fault("q,1", 1);
        fault("q1", 2);
        fault("q12", 3);
        fault("q123,1", 3);
        fault("q1 ,1", 2);
        fault("q1,", 3);
        fault("q1,x", 3);
        fault("q1,12", 4);
        fault("w1,1,", 4);
        fault("w99,;", 4);
        fault("q1,1;", 5);
        fault("q1,1;;", 5);
        fault("r", 1);
        fault("rp", 1);
        fault("r0", 2);
        fault("r0p1", 2);
        fault("r00", 3);
        fault("r00q1", 3);
        fault("r000", 3);
        fault("r00p", 4);
        fault("r00p;", 4);
        fault("r00x123", 6);
        fault("r00p1;q5,5;w1,", 14);
        fault("r00p1,q1,1", 5);
        fault("r00p1;r00p2;r00p3;r00p4;r00p5;r00p6;r00p7;r00p8;r00p9;r00p1;r00p1;r00s2;", 71);
        fault("r00p1;r00p2;r00p3;r00p4;r00p5;r00p6;r00p7;r00p8;r00p9;r00p1;r00p1;r00s2;r00p3", 71);
    }

    /** The first place up to which no set-up can begin so; -1, if it is one. */
    private static int placeOfFault(String text) {
        Matcher whole = SET_UP.matcher(text);
        if (whole.matches()) {
            return -1;
        }
        for (int size = 1; size <= text.length(); size++) {
            Matcher begun = SET_UP.matcher(text.substring(0, size));
            if (!begun.matches() && !begun.hitEnd()) {
                return size - 1;
            }
        }
        return text.length();
    }

    private static void everyEnd() {
        for (int size = 0; size <= TWELVE.length(); size++) {
            String text = TWELVE.substring(0, size);
            int place = placeOfFault(text);
            // The ninth and the tenth name ROADS that aren't there.
            int clauses = text.split(";").length;
            int done = clauses - (clauses > 8 ? 1 : 0) - (clauses > 9 ? 1 : 0);
            C.due("9: it ends at " + size, Checks.read(new StoneRoads(), text), place < 0 ? done : -10 - place);
        }
        C.due("9: a thirteenth", Checks.read(new StoneRoads(), TWELVE + ";q1,1"), -10 - TWELVE.length());
        C.due("9: a thirteenth begins", Checks.read(new StoneRoads(), TWELVE + ";"), -10 - TWELVE.length());
        C.due("9: a third digit", Checks.read(new StoneRoads(), "r00x999"), -16);
    }

    /** At each place of a set-up each sign there is; a FAULT, or another set-up. */
    private static void everySign() {
        String text = "q12,3;w4,5;r00s67;r01x8";
        for (int at = 0; at <= text.length(); at++) {
            for (int sign = 0; sign < 128; sign++) {
                String end = at < text.length() ? text.substring(at + 1) : "";
                String other = text.substring(0, at) + (char) sign + end;
                int place = placeOfFault(other);
                int told = Checks.read(new StoneRoads(), other);
                C.due("9: sign " + sign + " at " + at, place < 0 ? Math.min(told, 0) : told, place < 0 ? 0 : -10 - place);
            }
        }
    }

    private static void planGoesByClauses() {
        String[] clauses = {"q0,0", "w0,0", "r00p10", "r00p10;r44x1", "r44x1;w1,1"};
        for (String clause : clauses) {
            StoneRoads x = Checks.made("q10,2;w30,4");
            x.start(0);
            C.due("9: " + clause, Checks.read(x, clause), 1);
            C.due("9: no PLAN behind " + clause, x.count(7), 0);
        }
        StoneRoads x = Checks.made("q1,0;q1,0;q1,0;q1,0;q1,0;w1,0;w1,0;w1,0;w1,0;w1,0");
        x.start(0);
        C.due("2: a sixth is refused", x.quarry(1, 1), StoneRoads.FULL);
        C.due("3: a sixth is refused, too", x.work(1, 1), StoneRoads.FULL);
        C.due("9: all are refused", Checks.read(x, "q1,1;w1,1;r50p1;r05p1;r99p1"), 0);
        C.due("9: the PLAN stays", x.count(7), 1);
        C.due("9: five are there", x.count(0) * 10 + x.count(1), 55);
    }

    private static void refusedClauses() {
        StoneRoads x = new StoneRoads();
        C.due("9: a ROAD comes too late", Checks.read(x, "r00p5;q1,1;w1,1;r00p6;r01p7;r99x1"), 3);
        C.due("9: that ROAD", x.roadOf(0, 0, 1), 6);
        C.due("9: six come", Checks.read(x, "q1,1;q2,2;q3,3;q4,4;q5,5;w9,9"), 5);
        C.due("9: five are there", x.count(0), 5);
        C.due("9: the last one", x.of(0, 4, 0), 4);
        C.due("9: all are refused", Checks.read(x, "q1,1;r55p5"), 0);
    }
}
