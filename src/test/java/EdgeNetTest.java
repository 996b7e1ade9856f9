/** Promises 1 to 9, 13 and 26, sentence by sentence: the edges of the net. */
public final class EdgeNetTest {
    private static final long LOST = -1000000000000000000L;
    private static final int LEAST = Integer.MIN_VALUE;
    private static final int GREATEST = Integer.MAX_VALUE;
    private static final Due due = new Due();

    public static void main(String[] args) {
        newHasFourBoxes();
        newHasNoLines();
        newHasNoLoads();
        newIsNotGuarded();
        newHasNoFind();
        objectsAreApart();
        boxesTwoToSix();
        boxesOutside();
        boxesHaveNoLines();
        boxesHaveNoLoads();
        boxesLeaveGuarded();
        linesAreTen();
        linesAwayCountToo();
        linesJoinUnlikeBoxes();
        linesGoBothWays();
        lineRoom();
        lineWeight();
        aboutEachWhat();
        weighFromOneToTwenty();
        weighWhatItIs();
        weighStill();
        markOnlyThatLine();
        markOnlyThatMark();
        markBothOnTen();
        loadFromNoneToFifty();
        loadOneWay();
        loadEachTable();
        leastOfOneBox();
        leastIsNone();
        leastOfTheLongestWay();
        leastByMoreLines();
        nextIsNone();
        nextOfTen();
        nextWithoutThoseAway();
        guardTellsWhatItWas();
        toldEachWhat();
        toldOutside();
        lastCallIsAnswered();
        due.finish();
    }

    private static WayWeights sideBySide(int lines) {
        WayWeights x = new WayWeights();
        x.boxes(2);
        for (int line = 0; line < lines; line++) {
            x.line(0, 1, 10, 1);
        }
        return x;
    }

    private static WayWeights row(int boxes, int weight) {
        WayWeights x = new WayWeights();
        x.boxes(boxes);
        for (int box = 0; box + 1 < boxes; box++) {
            x.line(box, box + 1, 10, weight);
        }
        return x;
    }

    private static void newHasFourBoxes() {
        WayWeights x = new WayWeights();
        due.is("new: boxes", x.told(0), 4);
        for (int box = 0; box < 4; box++) {
            due.is("new: box " + box, x.least(box, box), 0);
        }
        due.is("new: box 4", x.least(4, 4), -1);
        due.is("new: boxes() tells four", x.boxes(5), 4);
    }

    private static void newHasNoLines() {
        WayWeights x = new WayWeights();
        due.is("new: lines", x.told(1), 0);
        due.is("new: STILL", x.told(2), 0);
        due.is("new: AWAY", x.told(3), 0);
        due.is("new: about", x.about(0, 3), -1);
        due.is("new: weigh", x.weigh(0, 1), -1);
        due.is("new: mark", x.mark(0, 0, true), -1);
        due.is("new: share", x.share(0, 1, 0, 0, 0), LOST - 1);
        due.is("new: on", x.on(0, 0, 0, 0), LOST - 1);
        due.is("new: parted", x.parted(0, 0), -1);
        due.is("new: who", x.who(0, 0, 0), -1);
        due.is("new: ring", x.ring(0, 1), -1);
        due.is("new: between", x.between(0, 1), -1);
        due.is("new: value", x.value(0, 1, 0), -1);
        due.is("new: the first line", x.line(3, 0, 1, 1), 0);
    }

    private static void isEmpty(String what, WayWeights x, int boxes) {
        for (int table = 0; table < 3; table++) {
            due.is(what + ": together, table " + table, x.told(5 + table), 0);
            for (int from = 0; from < boxes; from++) {
                for (int to = 0; to < boxes; to++) {
                    due.is(what + ": load(" + table + ", " + from + ", " + to + ")", x.load(table, from, to, 1),
                            from == to ? -1 : 0);
                }
            }
        }
    }

    private static void newHasNoLoads() {
        isEmpty("new", new WayWeights(), 4);
    }

    private static void newIsNotGuarded() {
        due.is("new: told(4)", new WayWeights().told(4), 0);
        due.is("new: guard(true)", new WayWeights().guard(true), 0);
        due.is("new: guard(false)", new WayWeights().guard(false), 0);
    }

    private static void newHasNoFind() {
        WayWeights x = new WayWeights();
        due.is("new: sought", x.sought(0), -3);
        due.is("new: better", x.better(0), LOST - 3);
        due.is("new: take", x.take(), -3);
    }

    private static void objectsAreApart() {
        WayWeights one = sideBySide(3);
        WayWeights other = new WayWeights();
        one.load(0, 0, 1, 9);
        one.guard(true);
        one.seek(2, 2);
        due.is("another: boxes", other.told(0), 4);
        due.is("another: lines", other.told(1), 0);
        due.is("another: guarded", other.told(4), 0);
        due.is("another: loads", other.told(5), 0);
        due.is("another: sought", other.sought(0), -3);
        other.boxes(6);
        due.is("the first: boxes", one.told(0), 2);
        due.is("the first: take", one.take(), 0);
    }

    private static void boxesTwoToSix() {
        WayWeights x = new WayWeights();
        int before = 4;
        for (int n : new int[] {2, 6, 3, 5, 4, 2, 2, 6, 6}) {
            due.is("boxes(" + n + ")", x.boxes(n), before);
            due.is("boxes(" + n + "): told(0)", x.told(0), n);
            due.is("boxes(" + n + "): the last", x.least(n - 1, n - 1), 0);
            due.is("boxes(" + n + "): beyond", x.least(n, n), -1);
            before = n;
        }
    }

    private static void boxesOutside() {
        WayWeights x = new WayWeights();
        for (int n : new int[] {1, 7, 0, -2, -6, LEAST, LEAST + 4, GREATEST, GREATEST - 1, 1 << 16}) {
            due.is("boxes(" + n + ")", x.boxes(n), -2);
            due.is("boxes(" + n + "): told(0)", x.told(0), 4);
        }
    }

    private static void boxesHaveNoLines() {
        WayWeights x = sideBySide(10);
        x.mark(0, 0, true);
        x.mark(9, 1, true);
        x.boxes(2);
        due.is("boxes: lines", x.told(1), 0);
        due.is("boxes: STILL", x.told(2), 0);
        due.is("boxes: AWAY", x.told(3), 0);
        due.is("boxes: line 0", x.about(0, 0), -1);
        due.is("boxes: no way", x.least(0, 1), -6);
        for (int line = 0; line < 10; line++) {
            due.is("boxes: line " + line + " anew", x.line(0, 1, 1, 1), line);
        }
        due.is("boxes: line 0 is not STILL", x.weigh(0, 2), 1);
        due.is("boxes: line 9 is not AWAY", x.ring(9, 2), -6);
    }

    private static void boxesHaveNoLoads() {
        WayWeights x = new WayWeights();
        x.boxes(6);
        for (int table = 0; table < 3; table++) {
            for (int from = 0; from < 6; from++) {
                for (int to = 0; to < 6; to++) {
                    x.load(table, from, to, 50);
                }
            }
        }
        x.boxes(2);
        due.is("boxes(2): loads", x.told(5) + x.told(6) + x.told(7), 0);
        x.boxes(6);
        isEmpty("boxes(6) again", x, 6);
    }

    /** The document names LINES and LOADS as what is anew. */
    private static void boxesLeaveGuarded() {
        WayWeights x = new WayWeights();
        x.guard(true);
        x.boxes(3);
        due.is("boxes: guarded", x.told(4), 1);
        x.guard(false);
        x.boxes(4);
        due.is("boxes: not guarded", x.told(4), 0);
    }

    private static void linesAreTen() {
        WayWeights x = new WayWeights();
        for (int line = 0; line < 10; line++) {
            due.is("line " + line, x.line(line % 4, (line + 1) % 4, 1 + line, 1 + line), line);
            due.is("lines", x.told(1), line + 1);
        }
        due.is("an eleventh", x.line(0, 1, 1, 1), -4);
        due.is("an eleventh again", x.line(0, 1, 1, 1), -4);
        due.is("lines still", x.told(1), 10);
        for (int line = 0; line < 10; line++) {
            due.is("line " + line + " as it was: BOX", x.about(line, 0), line % 4);
            due.is("line " + line + " as it was: other BOX", x.about(line, 1), (line + 1) % 4);
            due.is("line " + line + " as it was: ROOM", x.about(line, 2), 1 + line);
            due.is("line " + line + " as it was: WEIGHT", x.about(line, 3), 1 + line);
        }
        due.is("line 10", x.about(10, 0), -1);
    }

    private static void linesAwayCountToo() {
        WayWeights x = sideBySide(10);
        for (int line = 0; line < 10; line++) {
            x.mark(line, 1, true);
        }
        due.is("ten AWAY: an eleventh", x.line(0, 1, 1, 1), -4);
        due.is("ten AWAY: lines", x.told(1), 10);
        due.is("ten AWAY: about", x.about(9, 2), 10);
        due.is("ten AWAY: weigh", x.weigh(9, 20), 1);
    }

    private static void linesJoinUnlikeBoxes() {
        WayWeights x = new WayWeights();
        for (int a = -1; a <= 4; a++) {
            for (int b = -1; b <= 4; b++) {
                x.boxes(4);
                boolean isJoined = a != b && a >= 0 && b >= 0 && a < 4 && b < 4;
                due.is("line(" + a + ", " + b + ")", x.line(a, b, 1, 1), isJoined ? 0 : -1);
                due.is("line(" + a + ", " + b + "): lines", x.told(1), isJoined ? 1 : 0);
            }
        }
    }

    private static void linesGoBothWays() {
        WayWeights x = new WayWeights();
        x.line(3, 1, 1, 7);
        due.is("from the first", x.least(3, 1), 7);
        due.is("from the second", x.least(1, 3), 7);
        due.is("next of the first", x.next(3, 1), 1);
        due.is("next of the second", x.next(1, 3), 1);
        due.is("share from the first", x.share(3, 1, 0, 0, 0), 1);
        due.is("share from the second", x.share(1, 3, 0, 1, 0), 1);
        due.is("share from the first, the other way", x.share(3, 1, 0, 1, 0), 0);
    }

    private static void lineRoom() {
        WayWeights x = new WayWeights();
        due.is("room 1", x.line(0, 1, 1, 1), 0);
        due.is("room 100", x.line(0, 1, 100, 1), 1);
        due.is("room 1 is kept", x.about(0, 2), 1);
        due.is("room 100 is kept", x.about(1, 2), 100);
        for (int room : new int[] {0, 101, -1, -100, LEAST, LEAST + 1, GREATEST}) {
            due.is("room " + room, x.line(0, 1, room, 1), -2);
        }
        due.is("room: lines", x.told(1), 2);
    }

    private static void lineWeight() {
        WayWeights x = new WayWeights();
        due.is("weight 1", x.line(0, 1, 1, 1), 0);
        due.is("weight 20", x.line(0, 1, 1, 20), 1);
        due.is("weight 1 is kept", x.about(0, 3), 1);
        due.is("weight 20 is kept", x.about(1, 3), 20);
        for (int weight : new int[] {0, 21, -1, -20, LEAST, LEAST + 1, GREATEST}) {
            due.is("weight " + weight, x.line(0, 1, 1, weight), -2);
        }
        due.is("weight: lines", x.told(1), 2);
    }

    private static void aboutEachWhat() {
        WayWeights x = sideBySide(9);
        x.line(1, 0, 100, 20);
        x.mark(9, 0, true);
        x.mark(9, 1, true);
        int[] wanted = {1, 0, 100, 20, 1, 1};
        for (int what = 0; what < 6; what++) {
            due.is("about(9, " + what + ")", x.about(9, what), wanted[what]);
        }
        for (int what : new int[] {-1, 6, 7, LEAST, GREATEST}) {
            due.is("about(9, " + what + ")", x.about(9, what), -2);
        }
        for (int line : new int[] {-1, 10, 32, 41, LEAST, GREATEST}) {
            due.is("about(" + line + ", 0)", x.about(line, 0), -1);
        }
    }

    private static void weighFromOneToTwenty() {
        WayWeights x = sideBySide(1);
        due.is("weigh(0, 20)", x.weigh(0, 20), 1);
        due.is("weigh: it is 20", x.least(0, 1), 20);
        due.is("weigh(0, 1)", x.weigh(0, 1), 20);
        due.is("weigh: it is 1", x.least(0, 1), 1);
        for (int weight : new int[] {0, 21, -1, LEAST, GREATEST}) {
            due.is("weigh(0, " + weight + ")", x.weigh(0, weight), -2);
            due.is("weigh(0, " + weight + "): it is 1", x.about(0, 3), 1);
        }
    }

    private static void weighWhatItIs() {
        WayWeights x = sideBySide(1);
        due.is("weigh: the same", x.weigh(0, 1), 1);
        due.is("weigh: the same again", x.weigh(0, 1), 1);
    }

    private static void weighStill() {
        WayWeights x = sideBySide(2);
        x.mark(0, 0, true);
        due.is("STILL: another weight", x.weigh(0, 2), -5);
        due.is("STILL: the weight it has", x.weigh(0, 1), -5);
        due.is("STILL: it is as it was", x.about(0, 3), 1);
        due.is("STILL: another line", x.weigh(1, 2), 1);
        x.mark(0, 1, true);
        due.is("STILL and AWAY", x.weigh(0, 2), -5);
        x.mark(0, 0, false);
        due.is("AWAY alone", x.weigh(0, 2), 1);
        x.mark(0, 1, false);
        due.is("neither", x.weigh(0, 3), 2);
    }

    private static void markOnlyThatLine() {
        for (int what = 0; what < 2; what++) {
            for (int line = 0; line < 10; line++) {
                WayWeights x = sideBySide(10);
                due.is("mark(" + line + ", " + what + ")", x.mark(line, what, true), 0);
                due.is("mark(" + line + ", " + what + "): bits", x.told(2 + what), 1 << line);
                due.is("mark(" + line + ", " + what + ") no more", x.mark(line, what, false), 1);
                due.is("mark(" + line + ", " + what + ") no more: bits", x.told(2 + what), 0);
            }
        }
    }

    private static void markOnlyThatMark() {
        WayWeights x = sideBySide(2);
        x.mark(1, 0, true);
        due.is("STILL is not AWAY", x.told(3), 0);
        due.is("AWAY was not", x.mark(1, 1, true), 0);
        due.is("STILL stays", x.mark(1, 0, false), 1);
        due.is("AWAY stays", x.mark(1, 1, false), 1);
        due.is("none are", x.told(2) + x.told(3), 0);
    }

    private static void markBothOnTen() {
        WayWeights x = sideBySide(10);
        for (int line = 0; line < 10; line++) {
            x.mark(line, 0, true);
            x.mark(line, 1, true);
        }
        due.is("all STILL", x.told(2), 1023);
        due.is("all AWAY", x.told(3), 1023);
        due.is("mark: what 2", x.mark(0, 2, false), -2);
        due.is("mark: what -1", x.mark(0, -1, false), -2);
        due.is("mark: least what", x.mark(0, LEAST, false), -2);
        due.is("mark: greatest what", x.mark(0, GREATEST, false), -2);
        due.is("mark: line 10", x.mark(10, 0, false), -1);
        due.is("all STILL yet", x.told(2), 1023);
        due.is("all AWAY yet", x.told(3), 1023);
    }

    private static void loadFromNoneToFifty() {
        WayWeights x = new WayWeights();
        due.is("load 50", x.load(0, 0, 1, 50), 0);
        due.is("load 0", x.load(0, 0, 1, 0), 50);
        due.is("load 50 again", x.load(0, 0, 1, 50), 0);
        for (int v : new int[] {-1, 51, LEAST, GREATEST}) {
            due.is("load " + v, x.load(0, 0, 1, v), -2);
            due.is("load " + v + ": it is 50", x.told(5), 50);
        }
    }

    private static void loadOneWay() {
        WayWeights x = new WayWeights();
        x.load(0, 0, 1, 50);
        due.is("load the other way", x.load(0, 1, 0, 3), 0);
        due.is("load this way", x.load(0, 0, 1, 50), 50);
        due.is("loads both ways", x.told(5), 53);
    }

    private static void loadEachTable() {
        WayWeights x = new WayWeights();
        for (int table = 0; table < 3; table++) {
            due.is("table " + table, x.load(table, 3, 0, 10 + table), 0);
        }
        for (int table = 0; table < 3; table++) {
            due.is("table " + table + " together", x.told(5 + table), 10 + table);
        }
        for (int table : new int[] {-1, 3, LEAST, GREATEST}) {
            due.is("table " + table, x.load(table, 3, 0, 1), -1);
        }
    }

    private static void leastOfOneBox() {
        WayWeights empty = new WayWeights();
        WayWeights joined = row(4, 3);
        for (int box = 0; box < 4; box++) {
            due.is("one box without lines: " + box, empty.least(box, box), 0);
            due.is("one box with lines: " + box, joined.least(box, box), 0);
        }
    }

    private static void leastIsNone() {
        WayWeights empty = new WayWeights();
        for (int from = 0; from < 4; from++) {
            for (int to = 0; to < 4; to++) {
                due.is("no lines: least(" + from + ", " + to + ")", empty.least(from, to), from == to ? 0 : -6);
                due.is("no lines: next(" + from + ", " + to + ")", empty.next(from, to), 0);
            }
        }
        WayWeights cut = row(6, 20);
        cut.mark(2, 1, true);
        due.is("cut: this side", cut.least(0, 2), 40);
        due.is("cut: that side", cut.least(5, 3), 40);
        due.is("cut: over", cut.least(2, 3), -6);
        due.is("cut: far over", cut.least(5, 0), -6);
    }

    private static void leastOfTheLongestWay() {
        WayWeights x = row(6, 20);
        due.is("five of 20", x.least(0, 5), 100);
        due.is("five of 20, back", x.least(5, 0), 100);
        due.is("five of 1", row(6, 1).least(0, 5), 5);
    }

    private static void leastByMoreLines() {
        WayWeights x = row(6, 1);
        x.line(0, 5, 1, 6);
        due.is("five lines are lighter", x.least(0, 5), 5);
        due.is("five lines are lighter: next", x.next(0, 5), 1);
        x.weigh(5, 5);
        due.is("as light", x.least(0, 5), 5);
        due.is("as light: next", x.next(0, 5), 1 + 32);
        due.is("as light: next back", x.next(5, 0), 16 + 32);
        x.weigh(5, 4);
        due.is("one line is lighter", x.least(0, 5), 4);
        due.is("one line is lighter: next", x.next(0, 5), 32);
    }

    private static void nextIsNone() {
        WayWeights x = row(3, 1);
        for (int box = 0; box < 3; box++) {
            due.is("it is there: " + box, x.next(box, box), 0);
        }
        x.mark(0, 1, true);
        due.is("there is no way", x.next(0, 2), 0);
        due.is("there is no way back", x.next(2, 0), 0);
        due.is("there is one yet", x.next(1, 2), 2);
    }

    private static void nextOfTen() {
        WayWeights x = sideBySide(10);
        due.is("ten", x.next(0, 1), 1023);
        due.is("ten, back", x.next(1, 0), 1023);
        x.weigh(9, 2);
        due.is("the last is heavier", x.next(0, 1), 511);
        x.weigh(9, 1);
        x.weigh(0, 2);
        due.is("the first is heavier", x.next(0, 1), 1022);
    }

    private static void nextWithoutThoseAway() {
        WayWeights x = sideBySide(10);
        for (int line = 0; line < 10; line++) {
            x.mark(line, 1, true);
            due.is("AWAY up to " + line + ": next", x.next(0, 1), 1023 & -2 << line);
            due.is("AWAY up to " + line + ": least", x.least(0, 1), line < 9 ? 1 : -6);
        }
        x.mark(9, 1, false);
        due.is("the last is there again", x.next(0, 1), 512);
    }

    private static void guardTellsWhatItWas() {
        WayWeights x = new WayWeights();
        due.is("guard(false) at first", x.guard(false), 0);
        due.is("guard(true)", x.guard(true), 0);
        due.is("guard(true) again", x.guard(true), 1);
        due.is("told", x.told(4), 1);
        due.is("guard(false)", x.guard(false), 1);
        due.is("told later", x.told(4), 0);
    }

    private static void toldEachWhat() {
        WayWeights x = new WayWeights();
        x.boxes(6);
        for (int i = 0; i < 10; i++) {
            x.line(0, 5, 1, 1);
        }
        x.mark(9, 0, true);
        x.mark(0, 1, true);
        x.guard(true);
        for (int table = 0; table < 3; table++) {
            for (int from = 0; from < 6; from++) {
                for (int to = 0; to < 6; to++) {
                    x.load(table, from, to, 50 - table);
                }
            }
        }
        int[] wanted = {6, 10, 512, 1, 1, 1500, 1470, 1440};
        for (int what = 0; what < 8; what++) {
            due.is("told(" + what + ")", x.told(what), wanted[what]);
        }
    }

    private static void toldOutside() {
        for (int what : new int[] {-1, 8, 9, LEAST, GREATEST}) {
            due.is("told(" + what + ")", new WayWeights().told(what), -2);
        }
    }

    /** An object is used for 512 calls: boxes, a line and 510 weights. */
    private static void lastCallIsAnswered() {
        WayWeights x = sideBySide(1);
        int before = 1;
        for (int call = 3; call <= 512; call++) {
            int weight = 1 + call % 20;
            due.is("call " + call, x.weigh(0, weight), before);
            before = weight;
        }
    }
}
