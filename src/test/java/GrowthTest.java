/** Promises 24 and 25: how far loads may grow, and the year in which a line is full. */
public final class GrowthTest {
    private static final long LOST = -1000000000000000000L;
    private static final Due due = new Due();

    public static void main(String[] args) {
        grow();
        growRefused();
        year();
        lastYear();
        everyLoadIsCutUp();
        lostLoads();
        yearRefused();
        due.finish();
    }

    private static WayWeights oneLine(int room, int load) {
        WayWeights x = new WayWeights();
        x.boxes(2);
        x.line(0, 1, room, 1);
        x.load(1, 0, 1, load);
        return x;
    }

    private static void isGrowth(String what, WayWeights x, int table, long upper, long lower) {
        due.is(what + ", upper", x.grow(table, 0), upper);
        due.is(what + ", lower", x.grow(table, 1), lower);
    }

    private static void grow() {
        isGrowth("grow: room for more", oneLine(100, 8), 1, 25, 2);
        isGrowth("grow: full", oneLine(50, 50), 1, 1, 1);
        isGrowth("grow: too full", oneLine(10, 25), 1, 2, 5);
        WayWeights x = oneLine(10, 25);
        x.line(0, 1, 30, 1);
        x.line(1, 0, 30, 1);
        isGrowth("grow: parts", x, 1, 6, 5);
        x.guard(true);
        isGrowth("grow: guarded or not", x, 1, 6, 5);
        x.load(1, 1, 0, 50);
        isGrowth("grow: the other way", x, 1, 3, 5);
    }

    private static void growRefused() {
        WayWeights x = oneLine(10, 25);
        due.is("grow: nothing", x.grow(0, 0), LOST - 6);
        due.is("grow: nothing, lower", x.grow(0, 1), LOST - 6);
        due.is("grow: table 3", x.grow(3, 0), LOST - 1);
        due.is("grow: table -1", x.grow(-1, 0), LOST - 1);
        due.is("grow: UNKNOWN ahead", x.grow(3, 2), LOST - 1);
        due.is("grow: part 2", x.grow(1, 2), LOST - 2);
        due.is("grow: part -1", x.grow(1, -1), LOST - 2);
        due.is("grow: OUTSIDE ahead of NONE", x.grow(0, 2), LOST - 2);
        x.mark(0, 1, true);
        due.is("grow: all is LOST", x.grow(1, 0), LOST - 6);
        due.is("grow: no lines", new WayWeights().grow(0, 0), LOST - 6);
    }

    private static void year() {
        due.is("year: as they are", oneLine(10, 11).year(1, 1), 0);
        due.is("year: just full", oneLine(11, 11).year(1, 1), 1);
        due.is("year: doubled", oneLine(100, 25).year(1, 100), 3);
        // 10, 15, 23, 35, 53, 80, 120: halves are cut up.
        due.is("year: by halves, 23", oneLine(22, 10).year(1, 50), 2);
        due.is("year: by halves, 35", oneLine(23, 10).year(1, 50), 3);
        due.is("year: by halves, 53", oneLine(52, 10).year(1, 50), 4);
        due.is("year: by halves, 80", oneLine(53, 10).year(1, 50), 5);
        due.is("year: by halves, 120", oneLine(80, 10).year(1, 50), 6);
        due.is("year: nothing", oneLine(10, 11).year(0, 100), -6);
        WayWeights x = oneLine(10, 11);
        x.guard(true);
        x.line(0, 1, 10, 1);
        due.is("year: guarded or not", x.year(1, 1), 10);
        due.is("year: loads stay", x.told(6), 11);
    }

    private static void lastYear() {
        // By one hundredth a load of 1 is more by 1 each year: 100 in year 99.
        due.is("year 98", oneLine(98, 1).year(1, 1), 98);
        due.is("year 99", oneLine(99, 1).year(1, 1), 99);
        due.is("year 100", oneLine(100, 1).year(1, 1), -6);
        due.is("year 75", oneLine(100, 1).year(1, 2), 75);
    }

    private static WayWeights threeLoads(int room) {
        WayWeights x = new WayWeights();
        x.line(3, 0, room, 1);
        x.line(0, 1, 100, 1);
        x.line(0, 2, 100, 1);
        x.load(2, 3, 0, 4);
        x.load(2, 3, 1, 4);
        x.load(2, 3, 2, 5);
        return x;
    }

    private static void everyLoadIsCutUp() {
        // 13 in all, then 5 + 5 + 6, then 6 + 6 + 7.
        due.is("year: 13 and 16", threeLoads(15).year(2, 1), 1);
        due.is("year: 13, 16 and 19", threeLoads(18).year(2, 1), 2);
        due.is("year: 13, 16, 19 and 22", threeLoads(19).year(2, 1), 3);
    }

    private static void lostLoads() {
        WayWeights x = new WayWeights();
        x.line(0, 1, 100, 1);
        x.load(0, 2, 3, 50);
        due.is("year: LOST loads", x.year(0, 100), -6);
        x.load(0, 0, 1, 1);
        due.is("year: LOST loads are on no line", x.year(0, 1), -6);
        due.is("year: others are", x.year(0, 100), 7);
    }

    private static void yearRefused() {
        WayWeights x = oneLine(10, 11);
        due.is("year: table 3", x.year(3, 1), -1);
        due.is("year: table -1", x.year(-1, 1), -1);
        due.is("year: UNKNOWN ahead", x.year(3, 0), -1);
        due.is("year: g 0", x.year(1, 0), -2);
        due.is("year: g 101", x.year(1, 101), -2);
        due.is("year: g -5", x.year(1, -5), -2);
        due.is("year: g 100", x.year(1, 100), 0);
    }
}
