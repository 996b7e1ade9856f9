/** Promises 17 to 20: seeking. */
public final class SeekTest {
    private static final long LOST = -1000000000000000000L;
    private static final Due due = new Due();

    public static void main(String[] args) {
        seek();
        seekRefused();
        fewestChanges();
        firstByWeights();
        atMostSoMany();
        firstFive();
        stillAndAway();
        guarded();
        stateIsAhead();
        forgetsWhatIsOld();
        keepsWhatIsRefused();
        take();
        due.finish();
    }

    /** A straight line that is too heavy to be gone by, and a way round. */
    private static WayWeights round() {
        WayWeights x = new WayWeights();
        x.boxes(3);
        x.line(0, 1, 10, 5);
        x.line(0, 2, 10, 1);
        x.line(2, 1, 10, 1);
        x.load(0, 0, 1, 20);
        return x;
    }

    private static WayWeights sideBySide(int... weights) {
        WayWeights x = new WayWeights();
        x.boxes(2);
        for (int weight : weights) {
            x.line(0, 1, 10, weight);
        }
        x.load(0, 0, 1, 10);
        return x;
    }

    private static void isFound(String what, WayWeights x, int[] weights, long upper, long lower) {
        for (int line = 0; line < weights.length; line++) {
            due.is(what + ": sought(" + line + ")", x.sought(line), weights[line]);
        }
        due.is(what + ": better(0)", x.better(0), upper);
        due.is(what + ": better(1)", x.better(1), lower);
    }

    private static void seek() {
        WayWeights x = round();
        due.is("seek(2, 10)", x.seek(2, 10), 1);
        isFound("seek", x, new int[] {2, 1, 1}, 1, 1);
        due.is("seek: weights stay", x.about(0, 3), 5);
        due.is("seek: worst stays", x.all(0), 2);
        due.is("seek: the span", x.seek(1, 10), 0);
        isFound("seek: the span", x, new int[] {5, 1, 1}, 2, 1);
        due.is("seek(2, 1) later", x.seek(2, 1), 1);
        isFound("seek: the latest", x, new int[] {2, 1, 1}, 1, 1);
        WayWeights empty = new WayWeights();
        due.is("seek without lines", empty.seek(2, 10), 0);
        isFound("seek without lines", empty, new int[0], 0, 1);
        due.is("seek without lines: sought(0)", empty.sought(0), -1);
        WayWeights idle = sideBySide(7, 8);
        idle.load(0, 0, 1, 0);
        due.is("seek without loads", idle.seek(2, 10), 0);
        isFound("seek without loads", idle, new int[] {7, 8}, 0, 1);
    }

    private static void seekRefused() {
        WayWeights x = round();
        for (int[] at : new int[][] {{0, 1}, {3, 1}, {-1, 1}, {1, -1}, {1, 11}, {2, Integer.MAX_VALUE}}) {
            due.is("seek(" + at[0] + ", " + at[1] + ")", x.seek(at[0], at[1]), -2);
        }
        due.is("seek refused: none was", x.sought(0), -3);
        due.is("seek(1, 0)", x.seek(1, 0), 0);
        due.is("seek(2, 10)", x.seek(2, 10), 1);
    }

    private static void fewestChanges() {
        WayWeights x = sideBySide(2, 5);
        due.is("fewest changes", x.seek(2, 10), 1);
        isFound("fewest changes", x, new int[] {2, 2}, 1, 2);
    }

    private static void firstByWeights() {
        WayWeights x = sideBySide(5, 6);
        due.is("first by weights", x.seek(2, 10), 2);
        isFound("first by weights", x, new int[] {1, 1}, 1, 2);
        WayWeights y = sideBySide(2, 5, 5);
        due.is("first by weights, one change", y.seek(2, 1), 1);
        isFound("first by weights, one change", y, new int[] {2, 2, 5}, 1, 2);
        WayWeights z = sideBySide(2, 2, 1);
        due.is("first by weights, the later line", z.seek(2, 10), 1);
        isFound("first by weights, the later line", z, new int[] {2, 2, 2}, 1, 3);
    }

    private static void atMostSoMany() {
        WayWeights x = sideBySide(9, 8, 7);
        due.is("at most 0", x.seek(2, 0), 0);
        isFound("at most 0", x, new int[] {9, 8, 7}, 1, 1);
        due.is("at most 1", x.seek(2, 1), 0);
        isFound("at most 1", x, new int[] {9, 8, 7}, 1, 1);
        due.is("at most 2", x.seek(2, 2), 2);
        isFound("at most 2", x, new int[] {1, 1, 7}, 1, 2);
        due.is("at most 3", x.seek(2, 3), 3);
        isFound("at most 3", x, new int[] {1, 1, 1}, 1, 3);
    }

    private static void firstFive() {
        WayWeights x = sideBySide(1, 5, 5, 5, 5, 5, 5);
        due.is("first five", x.seek(1, 10), 4);
        isFound("first five", x, new int[] {1, 1, 1, 1, 1, 5, 5}, 1, 5);
    }

    private static void stillAndAway() {
        WayWeights x = sideBySide(1, 5, 5, 5, 5, 5, 5);
        x.mark(0, 0, true);
        due.is("a STILL line", x.seek(1, 10), 5);
        isFound("a STILL line", x, new int[] {1, 1, 1, 1, 1, 1, 5}, 1, 6);
        x.mark(1, 1, true);
        due.is("a line AWAY", x.seek(1, 10), 5);
        isFound("a line AWAY", x, new int[] {1, 5, 1, 1, 1, 1, 1}, 1, 6);
        for (int line = 1; line < 7; line++) {
            x.mark(line, 0, true);
        }
        due.is("all are STILL", x.seek(1, 10), 0);
        isFound("all are STILL", x, new int[] {1, 5, 5, 5, 5, 5, 5}, 1, 1);
    }

    private static void guarded() {
        WayWeights x = sideBySide(1, 2);
        due.is("not guarded", x.seek(1, 1), 1);
        isFound("not guarded", x, new int[] {1, 1}, 1, 2);
        x.guard(true);
        due.is("guarded", x.seek(1, 1), 0);
        isFound("guarded", x, new int[] {1, 2}, 1, 1);
        WayWeights y = sideBySide(1, 5, 5);
        y.guard(true);
        due.is("guarded, three lines", y.seek(1, 10), 2);
        isFound("guarded, three lines", y, new int[] {1, 1, 1}, 1, 2);
        y.load(2, 1, 0, 40);
        due.is("another table", y.seek(1, 10), 2);
        isFound("another table", y, new int[] {1, 1, 1}, 2, 1);
    }

    private static void stateIsAhead() {
        WayWeights x = round();
        due.is("sought ahead of seek", x.sought(0), -3);
        due.is("sought: STATE ahead of UNKNOWN", x.sought(9), -3);
        due.is("better ahead of seek", x.better(0), LOST - 3);
        due.is("better: STATE ahead of OUTSIDE", x.better(2), LOST - 3);
        due.is("take ahead of seek", x.take(), -3);
        x.seek(2, 1);
        due.is("sought(3)", x.sought(3), -1);
        due.is("sought(-1)", x.sought(-1), -1);
        due.is("better(2)", x.better(2), LOST - 2);
        due.is("better(-1)", x.better(-1), LOST - 2);
    }

    private static void tell(WayWeights x, int what) {
        switch (what) {
            case 0 -> x.boxes(3);
            case 1 -> x.line(0, 1, 1, 1);
            case 2 -> x.weigh(0, 5);
            case 3 -> x.mark(0, 0, false);
            case 4 -> x.mark(0, 1, false);
            case 5 -> x.load(0, 0, 1, 20);
            case 6 -> x.guard(false);
            default -> x.take();
        }
    }

    private static void forgetsWhatIsOld() {
        for (int what = 0; what < 8; what++) {
            WayWeights x = round();
            x.seek(2, 10);
            tell(x, what);
            due.is("told " + what + ": sought", x.sought(0), -3);
            due.is("told " + what + ": better", x.better(0), LOST - 3);
            due.is("told " + what + ": take", x.take(), -3);
        }
    }

    private static void keepsWhatIsRefused() {
        WayWeights x = round();
        x.mark(1, 0, true);
        x.seek(2, 10);
        x.boxes(7);
        x.line(0, 0, 1, 1);
        x.line(0, 1, 0, 1);
        x.weigh(0, 21);
        x.weigh(1, 2);
        x.mark(0, 2, true);
        x.load(0, 0, 1, 51);
        x.seek(3, 1);
        x.ring(0, 7);
        x.between(0, 9);
        x.all(0);
        x.year(0, 3);
        isFound("refused calls", x, new int[] {2, 1, 1}, 1, 1);
        due.is("refused calls: take", x.take(), 1);
    }

    private static void take() {
        WayWeights x = round();
        due.is("take: seek", x.seek(2, 10), 1);
        due.is("take()", x.take(), 1);
        due.is("take: weight 0", x.about(0, 3), 2);
        due.is("take: weight 1", x.about(1, 3), 1);
        due.is("take: worst", x.all(0), 1);
        due.is("take() again", x.take(), -3);
        due.is("take: seek again", x.seek(2, 10), 0);
        due.is("take: none", x.take(), 0);
        due.is("take: weight 0 stays", x.about(0, 3), 2);
    }
}
