/** Promises 10 to 12 and 14 to 16: what lines bear, and how full they are. */
public final class BearingTest {
    private static final long LOST = -1000000000000000000L;
    private static final Due due = new Due();

    public static void main(String[] args) {
        share();
        shareOfManyParts();
        shareRefused();
        on();
        onByLittle();
        worst();
        worstOfSeveral();
        all();
        allOfSeveral();
        allWithLinesAway();
        parted();
        who();
        due.finish();
    }

    /** From 0 to 3 by 1, to which two lines go, and by 2. */
    private static WayWeights twoSides() {
        WayWeights x = new WayWeights();
        x.line(0, 1, 10, 1);
        x.line(0, 1, 20, 1);
        x.line(1, 3, 5, 1);
        x.line(0, 2, 7, 1);
        x.line(2, 3, 9, 1);
        x.load(0, 0, 3, 10);
        x.load(1, 3, 0, 8);
        return x;
    }

    private static void isFraction(String what, long upper, long lower, long wantedUpper, long wantedLower) {
        due.is(what + ", upper", upper, wantedUpper);
        due.is(what + ", lower", lower, wantedLower);
    }

    private static void isShare(WayWeights x, int[] at, long upper, long lower) {
        isFraction("share(" + at[0] + ", " + at[1] + ", " + at[2] + ", " + at[3] + ")",
                x.share(at[0], at[1], at[2], at[3], 0), x.share(at[0], at[1], at[2], at[3], 1), upper, lower);
    }

    private static void share() {
        WayWeights x = twoSides();
        isShare(x, new int[] {0, 3, 0, 0}, 1, 3);
        isShare(x, new int[] {0, 3, 1, 0}, 1, 3);
        isShare(x, new int[] {0, 3, 2, 0}, 2, 3);
        isShare(x, new int[] {0, 3, 3, 0}, 1, 3);
        isShare(x, new int[] {0, 3, 4, 0}, 1, 3);
        isShare(x, new int[] {0, 3, 2, 1}, 0, 1);
        isShare(x, new int[] {3, 0, 2, 1}, 1, 2);
        isShare(x, new int[] {3, 0, 1, 1}, 1, 4);
        isShare(x, new int[] {3, 0, 4, 1}, 1, 2);
        isShare(x, new int[] {1, 3, 2, 0}, 1, 1);
        isShare(x, new int[] {1, 3, 0, 1}, 0, 1);
        isShare(x, new int[] {3, 3, 2, 0}, 0, 1);
        x.mark(2, 1, true);
        isShare(x, new int[] {0, 3, 2, 0}, 0, 1);
        isShare(x, new int[] {0, 3, 3, 0}, 1, 1);
        x.mark(4, 1, true);
        isShare(x, new int[] {0, 3, 3, 0}, 0, 1);
    }

    private static WayWeights sixBoxes(int[][] lines) {
        WayWeights x = new WayWeights();
        x.boxes(6);
        for (int[] line : lines) {
            x.line(line[0], line[1], 1, line[2]);
        }
        return x;
    }

    /** Lower numbers with as many twos, threes and fives as ten lines can give, and the seven. */
    private static void shareOfManyParts() {
        WayWeights twos = sixBoxes(new int[][] {{0, 1, 1}, {0, 2, 2}, {1, 2, 1}, {1, 3, 2}, {2, 3, 1}, {2, 4, 2},
            {3, 4, 1}, {3, 5, 2}, {4, 5, 1}, {4, 5, 1}});
        isShare(twos, new int[] {0, 5, 9, 0}, 11, 32);
        isShare(twos, new int[] {0, 5, 7, 0}, 5, 16);
        isShare(twos, new int[] {1, 5, 9, 0}, 5, 16);
        WayWeights threes = sixBoxes(new int[][] {{0, 1, 1}, {0, 5, 3}, {0, 5, 3}, {1, 2, 1}, {1, 5, 2}, {1, 5, 2},
            {2, 5, 1}, {2, 5, 1}, {2, 5, 1}});
        isShare(threes, new int[] {0, 5, 8, 0}, 1, 27);
        isShare(threes, new int[] {0, 5, 4, 0}, 1, 9);
        WayWeights fives = sixBoxes(new int[][] {{0, 1, 1}, {0, 5, 2}, {0, 5, 2}, {0, 5, 2}, {0, 5, 2},
            {1, 5, 1}, {1, 5, 1}, {1, 5, 1}, {1, 5, 1}, {5, 1, 1}});
        isShare(fives, new int[] {0, 5, 9, 1}, 1, 25);
        isShare(fives, new int[] {0, 5, 1, 0}, 1, 5);
        WayWeights seven = sixBoxes(new int[][] {{0, 5, 2}, {0, 5, 2}, {0, 5, 2}, {0, 5, 2}, {0, 5, 2}, {0, 5, 2},
            {0, 1, 1}, {1, 5, 1}, {1, 5, 1}, {1, 5, 1}});
        isShare(seven, new int[] {0, 5, 9, 0}, 1, 21);
        WayWeights mixed = sixBoxes(new int[][] {{0, 1, 1}, {0, 4, 9}, {1, 2, 2}, {1, 4, 8}, {1, 4, 8}, {2, 3, 3},
            {2, 4, 6}, {3, 4, 3}, {3, 4, 3}, {3, 4, 3}});
        isShare(mixed, new int[] {0, 4, 0, 0}, 1, 2);
        isShare(mixed, new int[] {0, 4, 2, 0}, 1, 6);
        isShare(mixed, new int[] {0, 4, 5, 0}, 1, 12);
        isShare(mixed, new int[] {0, 4, 9, 0}, 1, 36);
        isShare(mixed, new int[] {1, 4, 9, 0}, 1, 18);
    }

    private static void shareRefused() {
        WayWeights x = twoSides();
        due.is("share: box 4", x.share(4, 0, 0, 0, 0), LOST - 1);
        due.is("share: box -1", x.share(-1, 0, 0, 0, 0), LOST - 1);
        due.is("share: to box 4", x.share(0, 4, 0, 0, 0), LOST - 1);
        due.is("share: line 5", x.share(0, 3, 5, 0, 0), LOST - 1);
        due.is("share: line -1", x.share(0, 3, -1, 0, 0), LOST - 1);
        due.is("share: UNKNOWN ahead", x.share(0, 3, 5, 2, 2), LOST - 1);
        due.is("share: way 2", x.share(0, 3, 0, 2, 0), LOST - 2);
        due.is("share: way -1", x.share(0, 3, 0, -1, 0), LOST - 2);
        due.is("share: part 2", x.share(0, 3, 0, 0, 2), LOST - 2);
        due.is("share: part -1", x.share(0, 3, 0, 0, -1), LOST - 2);
    }

    private static void on() {
        WayWeights x = twoSides();
        isFraction("on(0, 2, 0)", x.on(0, 2, 0, 0), x.on(0, 2, 0, 1), 20, 3);
        isFraction("on(0, 0, 0)", x.on(0, 0, 0, 0), x.on(0, 0, 0, 1), 10, 3);
        isFraction("on(0, 2, 1)", x.on(0, 2, 1, 0), x.on(0, 2, 1, 1), 0, 1);
        isFraction("on(1, 2, 1)", x.on(1, 2, 1, 0), x.on(1, 2, 1, 1), 4, 1);
        isFraction("on(1, 0, 1)", x.on(1, 0, 1, 0), x.on(1, 0, 1, 1), 2, 1);
        isFraction("on(2, 0, 0)", x.on(2, 0, 0, 0), x.on(2, 0, 0, 1), 0, 1);
        x.load(0, 1, 3, 3);
        x.load(0, 0, 1, 5);
        isFraction("on: more loads", x.on(0, 2, 0, 0), x.on(0, 2, 0, 1), 29, 3);
        isFraction("on: another target", x.on(0, 0, 0, 0), x.on(0, 0, 0, 1), 35, 6);
        x.mark(2, 1, true);
        x.mark(4, 1, true);
        isFraction("on: loads that are LOST", x.on(0, 3, 0, 0), x.on(0, 3, 0, 1), 0, 1);
        due.is("on: table 3", x.on(3, 0, 0, 0), LOST - 1);
        due.is("on: table -1", x.on(-1, 0, 0, 0), LOST - 1);
        due.is("on: line 5", x.on(0, 5, 0, 0), LOST - 1);
        due.is("on: line -1", x.on(0, -1, 0, 0), LOST - 1);
        due.is("on: UNKNOWN ahead", x.on(0, 5, 2, 0), LOST - 1);
        due.is("on: way 2", x.on(0, 0, 2, 0), LOST - 2);
        due.is("on: part 2", x.on(0, 0, 0, 2), LOST - 2);
        due.is("on: part -1", x.on(0, 0, 0, -1), LOST - 2);
    }

    /** A load of 1 is borne by itself, and the sum of parts with unlike lower numbers is in lowest terms. */
    private static void onByLittle() {
        WayWeights x = twoSides();
        x.load(2, 0, 3, 1);
        isFraction("on by 1", x.on(2, 2, 0, 0), x.on(2, 2, 0, 1), 2, 3);
        isWorst(x, 2, 2, 15, 2, 0);
        x.load(2, 0, 1, 1);
        isFraction("on by 1 and 1", x.on(2, 0, 0, 0), x.on(2, 0, 0, 1), 5, 6);
        x.load(2, 2, 1, 1);
        isFraction("on by 1, 1 and 1", x.on(2, 0, 0, 0), x.on(2, 0, 0, 1), 13, 12);
        x.load(0, 0, 3, 0);
        x.load(1, 3, 0, 0);
        x.load(2, 0, 1, 0);
        x.load(2, 2, 1, 0);
        isAll(x, 2, 15, 2, -6);
        WayWeights fresh = new WayWeights();
        fresh.line(0, 1, 4, 1);
        fresh.line(0, 1, 4, 1);
        fresh.load(1, 0, 1, 1);
        isAll(fresh, 1, 8, 1, -6);
        fresh.guard(true);
        isAll(fresh, 1, 4, 1, 0);
    }

    private static void isWorst(WayWeights x, int table, long... wanted) {
        for (int what = 0; what < 4; what++) {
            due.is("worst(" + table + ", " + what + ")", x.worst(table, what), wanted[what]);
        }
    }

    private static void worst() {
        WayWeights x = twoSides();
        isWorst(x, 0, 4, 3, 2, 0);
        isWorst(x, 1, 4, 5, 2, 1);
        isWorst(x, 2, 0, 1, -6, -6);
        x.load(2, 2, 0, 50);
        isWorst(x, 2, 50, 7, 3, 1);
        x.mark(3, 1, true);
        x.mark(4, 1, true);
        isWorst(x, 2, 0, 1, -6, -6);
        due.is("worst: table 3", x.worst(3, 0), LOST - 1);
        due.is("worst: table -1", x.worst(-1, 0), LOST - 1);
        due.is("worst: UNKNOWN ahead", x.worst(3, 4), LOST - 1);
        due.is("worst: what 4", x.worst(0, 4), LOST - 2);
        due.is("worst: what -1", x.worst(0, -1), LOST - 2);
    }

    private static void worstOfSeveral() {
        WayWeights x = new WayWeights();
        x.line(2, 3, 20, 1);
        x.line(0, 1, 10, 1);
        x.load(0, 0, 1, 5);
        x.load(0, 1, 0, 5);
        isWorst(x, 0, 1, 2, 1, 0);
        x.load(0, 3, 2, 10);
        isWorst(x, 0, 1, 2, 0, 1);
        x.load(0, 1, 0, 6);
        isWorst(x, 0, 3, 5, 1, 1);
    }

    private static void isAll(WayWeights x, long... wanted) {
        for (int what = 0; what < 4; what++) {
            due.is("all(" + what + ")", x.all(what), wanted[what]);
        }
    }

    private static void all() {
        WayWeights x = twoSides();
        isAll(x, 4, 3, 0, -6);
        x.guard(true);
        isAll(x, 2, 1, 0, 3);
        x.load(2, 0, 3, 20);
        isAll(x, 4, 1, 2, 3);
        x.guard(false);
        isAll(x, 8, 3, 2, -6);
        due.is("all(4)", x.all(4), LOST - 2);
        due.is("all(-1)", x.all(-1), LOST - 2);
        isAll(new WayWeights(), 0, 1, 0, -6);
    }

    private static void allOfSeveral() {
        WayWeights x = new WayWeights();
        x.boxes(3);
        x.line(0, 1, 10, 1);
        x.line(0, 1, 10, 1);
        x.line(1, 2, 5, 1);
        x.load(0, 0, 1, 10);
        x.load(1, 1, 2, 5);
        isAll(x, 1, 1, 1, -6);
        x.guard(true);
        isAll(x, 1, 1, 0, 0);
        x.load(0, 2, 1, 5);
        isAll(x, 1, 1, 0, -6);
        x.load(0, 2, 1, 0);
        x.load(0, 0, 1, 0);
        x.load(2, 2, 1, 5);
        isAll(x, 1, 1, 1, -6);
    }

    private static void allWithLinesAway() {
        WayWeights x = twoSides();
        x.guard(true);
        x.mark(3, 1, true);
        isAll(x, 2, 1, 0, -6);
        x.mark(2, 1, true);
        isAll(x, 0, 1, 0, -6);
    }

    private static void parted() {
        WayWeights x = twoSides();
        x.load(0, 2, 1, 6);
        due.is("parted(0, -1)", x.parted(0, -1), 0);
        due.is("parted(0, 2)", x.parted(0, 2), 0);
        x.mark(3, 1, true);
        due.is("parted: as it is", x.parted(0, -1), 0);
        due.is("parted: one more", x.parted(0, 2), 16);
        due.is("parted: one more, one of two", x.parted(0, 0), 0);
        due.is("parted: one that is AWAY", x.parted(0, 3), 0);
        due.is("parted: another table", x.parted(1, 2), 8);
        due.is("parted: an empty table", x.parted(2, 2), 0);
        x.mark(4, 1, true);
        due.is("parted: as it is, in two", x.parted(0, -1), 6);
        due.is("parted: table 3", x.parted(3, -1), -1);
        due.is("parted: table -1", x.parted(-1, -1), -1);
        due.is("parted: line 5", x.parted(0, 5), -1);
        due.is("parted: line -2", x.parted(0, -2), -1);
    }

    private static void who() {
        WayWeights x = twoSides();
        due.is("who(0, 2, 0)", x.who(0, 2, 0), 3);
        due.is("who(0, 2, 1)", x.who(0, 2, 1), -6);
        due.is("who(1, 2, 1)", x.who(1, 2, 1), 30);
        x.load(0, 1, 3, 6);
        due.is("who: more of a greater load's part", x.who(0, 2, 0), 3);
        x.load(0, 1, 3, 7);
        due.is("who: all of a lesser load", x.who(0, 2, 0), 13);
        x.load(0, 0, 3, 9);
        x.load(0, 1, 3, 6);
        due.is("who: the first of several by from", x.who(0, 2, 0), 3);
        x.load(2, 1, 3, 6);
        x.load(2, 1, 2, 18);
        due.is("who: the first of several by to", x.who(2, 2, 0), 12);
        due.is("who: table 3", x.who(3, 0, 0), -1);
        due.is("who: table -1", x.who(-1, 0, 0), -1);
        due.is("who: line 5", x.who(0, 5, 0), -1);
        due.is("who: line -1", x.who(0, -1, 0), -1);
        due.is("who: UNKNOWN ahead", x.who(0, 5, 2), -1);
        due.is("who: way 2", x.who(0, 0, 2), -2);
        due.is("who: way -1", x.who(0, 0, -1), -2);
    }
}
