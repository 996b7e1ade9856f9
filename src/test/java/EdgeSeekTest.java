/** Promises 17 to 20, sentence by sentence: the edges of seeking. */
public final class EdgeSeekTest {
    private static final long LOST = -1000000000000000000L;
    private static final int LEAST = Integer.MIN_VALUE;
    private static final int GREATEST = Integer.MAX_VALUE;
    private static final Due due = new Due();

    public static void main(String[] args) {
        spanOneAndTwo();
        spanOutside();
        changesNoneToTen();
        changesOutside();
        aWeightBeyondTheSpanStays();
        aWeightWithinTheSpanStays();
        noLines();
        noLoads();
        allStill();
        allAway();
        onlyFiveOfTen();
        fiveThatAreFree();
        fewerThanFive();
        fewestChangesFirst();
        firstByWeightsThen();
        lostLoadsCountForNothing();
        guardedByALineAway();
        guardedByEachLineAway();
        guardedNoMore();
        loadOfOne();
        worstOverAllTables();
        weightsStay();
        soughtUnknown();
        betterInLowestTerms();
        betterOutside();
        latestSeekIsTold();
        refusedSeekIsNone();
        findIsGoneWithEachCall();
        findStaysWithRefusedCalls();
        takeWithoutFind();
        takeOfNoChange();
        takeOfFiveChanges();
        takeIsNotTwice();
        due.finish();
    }

    /** Lines of ROOM 10 side by side, and a load of 10. */
    private static WayWeights sideBySide(int... weights) {
        WayWeights x = new WayWeights();
        x.boxes(2);
        for (int weight : weights) {
            x.line(0, 1, 10, weight);
        }
        x.load(0, 0, 1, 10);
        return x;
    }

    private static void isFound(String what, WayWeights x, int[] weights, long upper, long lower) {
        for (int line = 0; line < weights.length; line++) {
            due.is(what + ": sought(" + line + ")", x.sought(line), weights[line]);
        }
        due.is(what + ": better(0)", x.better(0), upper);
        due.is(what + ": better(1)", x.better(1), lower);
    }

    private static void spanOneAndTwo() {
        WayWeights x = sideBySide(2, 3);
        due.is("span 1, one change", x.seek(1, 1), 0);
        isFound("span 1, one change", x, new int[] {2, 3}, 1, 1);
        due.is("span 1, two changes", x.seek(1, 2), 2);
        isFound("span 1, two changes", x, new int[] {1, 1}, 1, 2);
        due.is("span 2, one change", x.seek(2, 1), 1);
        isFound("span 2, one change", x, new int[] {2, 2}, 1, 2);
        due.is("span 2, two changes", x.seek(2, 2), 1);
        isFound("span 2, two changes", x, new int[] {2, 2}, 1, 2);
    }

    private static void spanOutside() {
        WayWeights x = sideBySide(2, 3);
        for (int w : new int[] {0, 3, -1, -2, 20, LEAST, LEAST + 1, GREATEST}) {
            due.is("seek(" + w + ", 1)", x.seek(w, 1), -2);
        }
        due.is("no find by these", x.sought(0), -3);
    }

    private static void changesNoneToTen() {
        WayWeights x = sideBySide(9, 8, 7, 6, 5, 1);
        for (int k = 0; k <= 10; k++) {
            int changes = Math.min(k, 5);
            due.is("seek(1, " + k + ")", x.seek(1, k), changes);
            int[] wanted = {9, 8, 7, 6, 5, 1};
            for (int line = 0; line < changes; line++) {
                wanted[line] = 1;
            }
            isFound("seek(1, " + k + ")", x, wanted, 1, changes + 1);
        }
    }

    private static void changesOutside() {
        WayWeights x = sideBySide(2, 3);
        for (int k : new int[] {-1, 11, -10, LEAST, LEAST + 1, GREATEST}) {
            due.is("seek(1, " + k + ")", x.seek(1, k), -2);
            due.is("seek(2, " + k + ")", x.seek(2, k), -2);
        }
        due.is("no find by these", x.better(0), LOST - 3);
    }

    private static void aWeightBeyondTheSpanStays() {
        WayWeights x = sideBySide(20, 20);
        due.is("20 and 20 are as good", x.seek(2, 10), 0);
        isFound("20 and 20", x, new int[] {20, 20}, 1, 2);
        WayWeights y = sideBySide(3, 3, 1);
        y.mark(2, 0, true);
        due.is("3 does not become 3", y.seek(2, 1), 1);
        isFound("3, 3 and STILL 1", y, new int[] {1, 3, 1}, 1, 2);
    }

    /** With span 1 a WEIGHT of 2 may stay, though it could not be come to. */
    private static void aWeightWithinTheSpanStays() {
        WayWeights x = sideBySide(2, 2, 1);
        x.mark(2, 1, true);
        due.is("2 may stay", x.seek(1, 10), 0);
        isFound("2 may stay", x, new int[] {2, 2, 1}, 1, 2);
        WayWeights y = sideBySide(1, 2);
        due.is("1 may stay", y.seek(2, 10), 1);
        isFound("1 may stay", y, new int[] {1, 1}, 1, 2);
    }

    private static void noLines() {
        WayWeights x = new WayWeights();
        x.load(0, 0, 1, 50);
        for (int w = 1; w <= 2; w++) {
            due.is("no lines: seek(" + w + ", 10)", x.seek(w, 10), 0);
            isFound("no lines", x, new int[0], 0, 1);
        }
        due.is("no lines: sought(0)", x.sought(0), -1);
        due.is("no lines: take", x.take(), 0);
    }

    private static void noLoads() {
        WayWeights x = sideBySide(20, 19, 18, 17, 16, 15, 14, 13, 12, 11);
        x.load(0, 0, 1, 0);
        x.guard(true);
        due.is("no loads", x.seek(2, 10), 0);
        isFound("no loads", x, new int[] {20, 19, 18, 17, 16, 15, 14, 13, 12, 11}, 0, 1);
    }

    private static void allStill() {
        WayWeights x = sideBySide(1, 2, 3);
        for (int line = 0; line < 3; line++) {
            x.mark(line, 0, true);
        }
        due.is("all STILL", x.seek(2, 10), 0);
        isFound("all STILL", x, new int[] {1, 2, 3}, 1, 1);
        x.mark(2, 0, false);
        due.is("all but one STILL", x.seek(2, 10), 1);
        isFound("all but one STILL", x, new int[] {1, 2, 1}, 1, 2);
    }

    private static void allAway() {
        WayWeights x = sideBySide(1, 2, 3);
        for (int line = 0; line < 3; line++) {
            x.mark(line, 1, true);
        }
        due.is("all AWAY", x.seek(2, 10), 0);
        isFound("all AWAY", x, new int[] {1, 2, 3}, 0, 1);
        x.mark(1, 1, false);
        due.is("all but one AWAY", x.seek(2, 10), 0);
        isFound("all but one AWAY", x, new int[] {1, 2, 3}, 1, 1);
    }

    private static void onlyFiveOfTen() {
        WayWeights x = sideBySide(1, 5, 5, 5, 5, 5, 5, 5, 5, 5);
        due.is("the first five", x.seek(1, 10), 4);
        isFound("the first five", x, new int[] {1, 1, 1, 1, 1, 5, 5, 5, 5, 5}, 1, 5);
        WayWeights y = sideBySide(5, 5, 5, 5, 5, 5, 5, 5, 5, 1);
        due.is("the sixth to ninth are not changed", y.seek(2, 10), 5);
        isFound("the sixth to ninth", y, new int[] {1, 1, 1, 1, 1, 5, 5, 5, 5, 1}, 1, 6);
        WayWeights z = sideBySide(1, 1, 1, 1, 1, 5);
        due.is("the sixth alone", z.seek(1, 10), 0);
        isFound("the sixth alone", z, new int[] {1, 1, 1, 1, 1, 5}, 1, 5);
    }

    private static void fiveThatAreFree() {
        WayWeights x = sideBySide(5, 5, 5, 5, 5, 5, 5, 5, 5, 1);
        x.mark(0, 0, true);
        x.mark(2, 0, true);
        x.mark(4, 1, true);
        due.is("five neither STILL nor AWAY", x.seek(1, 10), 5);
        isFound("five neither STILL nor AWAY", x, new int[] {5, 1, 5, 1, 5, 1, 1, 1, 5, 1}, 1, 6);
        x.mark(0, 1, true);
        due.is("STILL and AWAY is one", x.seek(1, 10), 5);
        isFound("STILL and AWAY", x, new int[] {5, 1, 5, 1, 5, 1, 1, 1, 5, 1}, 1, 6);
    }

    private static void fewerThanFive() {
        WayWeights x = sideBySide(5, 5, 5, 5, 1);
        x.mark(4, 0, true);
        due.is("four", x.seek(1, 10), 4);
        isFound("four", x, new int[] {1, 1, 1, 1, 1}, 1, 5);
        WayWeights last = sideBySide(7, 7, 1);
        due.is("the last can only stay", last.seek(1, 1), 1);
        isFound("the last can only stay", last, new int[] {1, 7, 1}, 1, 2);
        WayWeights one = sideBySide(5);
        due.is("one, that helps nothing", one.seek(2, 10), 0);
        isFound("one", one, new int[] {5}, 1, 1);
    }

    private static void fewestChangesFirst() {
        // By 2, 2, 2 with one change, though 1, 1, 1 with two is ahead by WEIGHTS.
        WayWeights x = sideBySide(2, 2, 1);
        due.is("one change ahead of two", x.seek(2, 10), 1);
        isFound("one change ahead of two", x, new int[] {2, 2, 2}, 1, 3);
        WayWeights y = sideBySide(2, 2);
        due.is("no change ahead of two", y.seek(2, 10), 0);
        isFound("no change ahead of two", y, new int[] {2, 2}, 1, 2);
    }

    private static void firstByWeightsThen() {
        WayWeights x = sideBySide(7, 7, 7, 1);
        x.mark(3, 0, true);
        due.is("the first line's WEIGHT is the least", x.seek(1, 1), 1);
        isFound("one of three", x, new int[] {1, 7, 7, 1}, 1, 2);
        due.is("two of three", x.seek(1, 2), 2);
        isFound("two of three", x, new int[] {1, 1, 7, 1}, 1, 3);
        // A WEIGHT that stays can be less than the one it could become: 1, 2 is ahead of 2, 1.
        WayWeights y = new WayWeights();
        y.boxes(3);
        y.line(0, 1, 10, 1);
        y.line(1, 2, 10, 1);
        y.line(0, 2, 10, 3);
        y.load(0, 0, 2, 20);
        due.is("one WEIGHT more of two", y.seek(2, 1), 1);
        isFound("one WEIGHT more of two", y, new int[] {1, 1, 2}, 1, 1);
        y.mark(2, 0, true);
        due.is("one WEIGHT more of the others", y.seek(2, 1), 1);
        isFound("one WEIGHT more of the others", y, new int[] {1, 2, 3}, 1, 1);
    }

    private static void lostLoadsCountForNothing() {
        WayWeights x = sideBySide(1, 5);
        x.boxes(4);
        x.line(0, 1, 10, 1);
        x.line(0, 1, 10, 5);
        x.load(0, 0, 1, 10);
        x.load(0, 2, 3, 50);
        due.is("LOST beside", x.seek(1, 10), 1);
        isFound("LOST beside", x, new int[] {1, 1}, 1, 2);
        x.load(0, 0, 1, 0);
        due.is("LOST alone", x.seek(1, 10), 0);
        isFound("LOST alone", x, new int[] {1, 5}, 0, 1);
    }

    private static void guardedByALineAway() {
        WayWeights x = sideBySide(1, 2);
        x.guard(true);
        due.is("one line must bear all, if the other is away", x.seek(2, 10), 0);
        isFound("two lines, guarded", x, new int[] {1, 2}, 1, 1);
        WayWeights y = sideBySide(1, 5, 5, 5, 5, 5, 5, 5, 5, 1);
        y.guard(true);
        due.is("ten lines, guarded", y.seek(1, 10), 4);
        isFound("ten lines, guarded", y, new int[] {1, 1, 1, 1, 1, 5, 5, 5, 5, 1}, 1, 5);
    }

    /** WEIGHTS that are better with one LINE away are worse with another one: each counts. */
    private static void guardedByEachLineAway() {
        for (int turn = 0; turn < 3; turn++) {
            WayWeights x = new WayWeights();
            x.boxes(2);
            int[] rooms = {1, 10, 10};
            for (int line = 0; line < 3; line++) {
                x.line(0, 1, rooms[(line + turn) % 3], 3);
            }
            x.load(0, 0, 1, 10);
            x.guard(true);
            // The narrow line is left out for as long as one of the others is there.
            int narrow = (3 - turn) % 3;
            due.is("narrow line " + narrow, x.seek(2, 2), 2);
            int[] wanted = {1, 1, 1};
            wanted[narrow] = 3;
            isFound("narrow line " + narrow, x, wanted, 1, 1);
        }
    }

    private static void guardedNoMore() {
        WayWeights x = sideBySide(5, 5, 5, 5, 5, 5, 5, 5, 5, 1);
        x.guard(true);
        due.is("guarded", x.seek(1, 10), 5);
        isFound("guarded", x, new int[] {1, 1, 1, 1, 1, 5, 5, 5, 5, 1}, 1, 5);
        x.guard(false);
        due.is("guarded no more", x.seek(1, 10), 5);
        isFound("guarded no more", x, new int[] {1, 1, 1, 1, 1, 5, 5, 5, 5, 1}, 1, 6);
    }

    private static void loadOfOne() {
        WayWeights x = sideBySide(1, 5);
        x.load(0, 0, 1, 0);
        x.load(1, 1, 0, 1);
        due.is("a load of 1", x.seek(1, 10), 1);
        isFound("a load of 1", x, new int[] {1, 1}, 1, 20);
    }

    private static void worstOverAllTables() {
        WayWeights x = sideBySide(1, 2);
        x.load(2, 1, 0, 50);
        due.is("the last table", x.seek(1, 10), 1);
        isFound("the last table", x, new int[] {1, 1}, 5, 2);
    }

    private static void weightsStay() {
        WayWeights x = sideBySide(9, 8, 7, 6, 5, 1);
        due.is("weights stay: seek", x.seek(2, 10), 5);
        int[] weights = {9, 8, 7, 6, 5, 1};
        for (int line = 0; line < 6; line++) {
            due.is("weights stay: " + line, x.about(line, 3), weights[line]);
        }
        due.is("ways stay", x.next(0, 1), 32);
        due.is("fullness stays", x.all(0), 1);
        due.is("fullness stays, lower", x.all(1), 1);
    }

    private static void soughtUnknown() {
        WayWeights x = sideBySide(5, 5, 5, 5, 5, 5, 5, 5, 5, 1);
        x.seek(1, 10);
        due.is("sought(9)", x.sought(9), 1);
        for (int line : new int[] {-1, 10, LEAST, GREATEST}) {
            due.is("sought(" + line + ")", x.sought(line), -1);
        }
    }

    private static void betterInLowestTerms() {
        WayWeights x = sideBySide(1, 1, 1, 1);
        x.load(0, 0, 1, 6);
        x.seek(1, 0);
        isFound("6 by four lines of 10", x, new int[] {1, 1, 1, 1}, 3, 20);
        x.load(0, 0, 1, 40);
        x.seek(1, 0);
        isFound("40 by four lines of 10", x, new int[] {1, 1, 1, 1}, 1, 1);
    }

    private static void betterOutside() {
        WayWeights x = sideBySide(1, 5);
        x.seek(1, 10);
        for (int part : new int[] {-1, 2, LEAST, GREATEST}) {
            due.is("better(" + part + ")", x.better(part), LOST - 2);
        }
        due.is("better(0) then", x.better(0), 1);
        due.is("better(1) then", x.better(1), 2);
    }

    private static void latestSeekIsTold() {
        WayWeights x = sideBySide(1, 5);
        x.seek(1, 10);
        isFound("the first seek", x, new int[] {1, 1}, 1, 2);
        x.seek(1, 0);
        isFound("the latest seek", x, new int[] {1, 5}, 1, 1);
        due.is("the latest is taken", x.take(), 0);
        due.is("the latest is taken: weight", x.about(1, 3), 5);
    }

    private static void refusedSeekIsNone() {
        WayWeights x = sideBySide(1, 5);
        x.seek(1, 10);
        due.is("a refused seek", x.seek(0, 0), -2);
        due.is("another refused seek", x.seek(1, 11), -2);
        isFound("the latest that was not refused", x, new int[] {1, 1}, 1, 2);
    }

    private static void tell(WayWeights x, int call) {
        switch (call) {
            case 0 -> due.is("boxes went", x.boxes(2), 2);
            case 1 -> due.is("line went", x.line(0, 1, 1, 20), 2);
            case 2 -> due.is("weigh went", x.weigh(0, 1), 1);
            case 3 -> due.is("mark STILL went", x.mark(0, 0, false), 0);
            case 4 -> due.is("mark AWAY went", x.mark(0, 1, false), 0);
            case 5 -> due.is("load went", x.load(2, 0, 1, 0), 0);
            case 6 -> due.is("guard went", x.guard(false), 0);
            default -> due.is("take went", x.take(), 1);
        }
    }

    /** Though what is told may be as it was: it is told, and it goes. */
    private static void findIsGoneWithEachCall() {
        for (int call = 0; call < 8; call++) {
            WayWeights x = sideBySide(1, 5);
            x.seek(1, 10);
            tell(x, call);
            due.is("call " + call + ": sought", x.sought(0), -3);
            due.is("call " + call + ": better", x.better(0), LOST - 3);
            due.is("call " + call + ": take", x.take(), -3);
            due.is("call " + call + ": seek again", x.seek(1, 0), 0);
            due.is("call " + call + ": better again", x.better(1), 1 + (call == 7 ? 1 : 0));
        }
    }

    private static void findStaysWithRefusedCalls() {
        WayWeights x = sideBySide(1, 5, 5, 5, 5, 5, 5, 5, 5, 5);
        x.mark(9, 0, true);
        x.seek(1, 1);
        due.is("boxes refused", x.boxes(7), -2);
        due.is("line UNKNOWN", x.line(0, 0, 1, 1), -1);
        due.is("line OUTSIDE", x.line(0, 1, 0, 1), -2);
        due.is("line FULL", x.line(0, 1, 1, 1), -4);
        due.is("weigh UNKNOWN", x.weigh(10, 1), -1);
        due.is("weigh OUTSIDE", x.weigh(0, 0), -2);
        due.is("weigh NO", x.weigh(9, 1), -5);
        due.is("mark UNKNOWN", x.mark(10, 0, true), -1);
        due.is("mark OUTSIDE", x.mark(0, 2, true), -2);
        due.is("load UNKNOWN", x.load(3, 0, 1, 1), -1);
        due.is("load OUTSIDE", x.load(0, 0, 1, 51), -2);
        isFound("refused calls", x, new int[] {1, 1, 5, 5, 5, 5, 5, 5, 5, 5}, 1, 2);
        due.is("refused calls: take", x.take(), 1);
    }

    private static void takeWithoutFind() {
        WayWeights x = sideBySide(1, 5);
        due.is("take without a find", x.take(), -3);
        due.is("take without a find: weight", x.about(1, 3), 5);
    }

    private static void takeOfNoChange() {
        WayWeights x = sideBySide(1, 5);
        x.seek(1, 0);
        due.is("take of no change", x.take(), 0);
        due.is("take of no change: weight", x.about(1, 3), 5);
        due.is("take of no change goes", x.sought(0), -3);
    }

    private static void takeOfFiveChanges() {
        WayWeights x = sideBySide(5, 5, 5, 5, 5, 5, 5, 5, 5, 1);
        x.seek(2, 10);
        due.is("take of five", x.take(), 5);
        for (int line = 0; line < 10; line++) {
            due.is("take of five: weight " + line, x.about(line, 3), line < 5 || line == 9 ? 1 : 5);
        }
        due.is("take of five: next", x.next(0, 1), 31 + 512);
        due.is("take of five: worst", x.all(1), 6);
        due.is("take of five: seek again", x.seek(2, 10), 0);
    }

    private static void takeIsNotTwice() {
        WayWeights x = sideBySide(1, 5);
        x.seek(1, 1);
        due.is("take", x.take(), 1);
        due.is("take again", x.take(), -3);
        due.is("take again: weight", x.about(1, 3), 1);
    }
}
