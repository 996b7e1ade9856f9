/** Promises 21 to 23, sentence by sentence: the edges of news. */
public final class EdgeNewsTest {
    private static final int LEAST = Integer.MIN_VALUE;
    private static final int GREATEST = Integer.MAX_VALUE;
    private static final Due due = new Due();

    public static void main(String[] args) {
        noRingForTheWeightItHas();
        noRingOfOneLine();
        noRingOfTwoBoxes();
        noRingWithoutWayRound();
        ringOfTwoBoxes();
        ringOverTheFirstLine();
        ringOfTheFirstBox();
        ringByLikeWays();
        ringIsForTheLeast();
        ringIsTheSameBothWays();
        ringOfTheFarthestBoxes();
        ringFarFromTheOtherPart();
        ringGoesByLinesThere();
        ringOfALineAway();
        ringOfALineStill();
        weightsOneAndTwenty();
        weightsOutside();
        linesUnknown();
        betweenNone();
        betweenOne();
        betweenManyEndsWithTheWeight();
        betweenIsByLeastValues();
        betweenDownwards();
        valueBeyondTheRow();
        eachChangeOfARowIsSafe();
        due.finish();
    }

    /** Boxes in a round, with weights of 1. */
    private static WayWeights round(int boxes) {
        WayWeights x = new WayWeights();
        x.boxes(boxes);
        for (int box = 0; box < boxes; box++) {
            x.line(box, (box + 1) % boxes, 1, 1);
        }
        return x;
    }

    private static void noRingForTheWeightItHas() {
        WayWeights x = round(6);
        for (int weight = 1; weight <= 20; weight++) {
            x.weigh(0, weight);
            due.is("ring for weight " + weight, x.ring(0, weight), -6);
            due.is("between for weight " + weight, x.between(0, weight), 0);
            due.is("value for weight " + weight, x.value(0, weight, 0), -6);
        }
    }

    private static void noRingOfOneLine() {
        WayWeights x = new WayWeights();
        x.line(3, 0, 1, 1);
        due.is("one line", x.ring(0, 20), -6);
        due.is("one line: between", x.between(0, 20), 1);
        due.is("one line: value", x.value(0, 20, 0), 20);
    }

    private static void noRingOfTwoBoxes() {
        WayWeights x = new WayWeights();
        x.boxes(2);
        for (int line = 0; line < 10; line++) {
            x.line(line % 2, 1 - line % 2, 1, 1 + line);
        }
        for (int line = 0; line < 10; line++) {
            due.is("two boxes: line " + line + " to 1", x.ring(line, 1), -6);
            due.is("two boxes: line " + line + " to 20", x.ring(line, 20), -6);
        }
    }

    private static void noRingWithoutWayRound() {
        WayWeights x = round(6);
        x.mark(3, 1, true);
        for (int line = 0; line < 6; line++) {
            if (line != 3) {
                due.is("a row: line " + line, x.ring(line, 20), -6);
                due.is("a row: between, line " + line, x.between(line, 20), 1);
            }
        }
    }

    /** For 0, BOXES 1 and 2: 2 goes by 1 as it is, 1 goes by 2 by the other WEIGHT. */
    private static void ringOfTwoBoxes() {
        WayWeights x = round(3);
        // By 2: 1 goes straight and by 2, and 2 goes straight to 0 by either: none goes back.
        due.is("2 does not go by 1", x.ring(0, 20), -6);
        x.weigh(2, 3);
        due.is("2 goes by 1 and 1 by 2", x.ring(0, 20), 0);
        x.weigh(2, 2);
        due.is("2 goes by 1 and straight", x.ring(0, 20), 0);
        due.is("1 goes by 2 and straight", x.ring(0, 3), 0);
        due.is("1 goes straight", x.ring(0, 2), -6);
    }

    /** The RING is on line 0, and it is line 1 that changes. */
    private static void ringOverTheFirstLine() {
        WayWeights x = new WayWeights();
        x.boxes(3);
        x.line(1, 2, 1, 2);
        x.line(0, 1, 1, 2);
        x.line(0, 2, 1, 9);
        due.is("over line 0", x.ring(1, 20), 0);
        due.is("over line 0: between", x.between(1, 20), 2);
    }

    /** The RING is of the BOXES 0 and 1, for the last one. */
    private static void ringOfTheFirstBox() {
        WayWeights x = new WayWeights();
        x.boxes(3);
        x.line(2, 1, 1, 2);
        x.line(1, 0, 1, 2);
        x.line(2, 0, 1, 9);
        due.is("of box 0", x.ring(0, 20), 2);
        due.is("of box 0: between", x.between(0, 20), 2);
    }

    /** One of several like NEXT LINES is enough for a RING. */
    private static void ringByLikeWays() {
        WayWeights x = round(4);
        due.is("weight 2", x.ring(0, 2), -6);
        due.is("weight 3, as heavy as the way round", x.ring(0, 3), 0);
        due.is("weight 4", x.ring(0, 4), 0);
    }

    /** On a round of six a line's two BOXES, and one on either side of them, are such targets. */
    private static void ringIsForTheLeast() {
        int[] wanted = {0, 0, 1, 2, 0, 0};
        for (int line = 0; line < 6; line++) {
            due.is("round of six: line " + line, round(6).ring(line, 20), wanted[line]);
        }
    }

    private static void ringIsTheSameBothWays() {
        for (int from = 1; from <= 20; from++) {
            WayWeights one = round(5);
            one.weigh(2, from);
            for (int to = 1; to <= 20; to++) {
                WayWeights other = round(5);
                other.weigh(2, to);
                due.is("ring from " + from + " to " + to, one.ring(2, to), other.ring(2, from));
            }
        }
    }

    private static void ringOfTheFarthestBoxes() {
        WayWeights x = new WayWeights();
        x.boxes(6);
        x.line(3, 4, 1, 2);
        x.line(4, 5, 1, 2);
        x.line(3, 5, 1, 9);
        // For 3: 5 goes by 4, and 4 by 5 with the other weight; for 4, 5: none turns back.
        due.is("the boxes 3 to 5", x.ring(0, 20), 3);
        WayWeights y = new WayWeights();
        y.boxes(6);
        y.line(5, 4, 1, 2);
        y.line(4, 3, 1, 2);
        y.line(5, 3, 1, 9);
        due.is("for the last box", y.ring(0, 20), 5);
    }

    private static void ringFarFromTheOtherPart() {
        WayWeights x = new WayWeights();
        x.boxes(6);
        x.line(0, 1, 1, 1);
        x.line(3, 4, 1, 2);
        x.line(4, 5, 1, 2);
        x.line(3, 5, 1, 9);
        due.is("a part of two", x.ring(0, 20), -6);
        due.is("the other part", x.ring(1, 20), 3);
        due.is("the other part: between", x.between(1, 20), 2);
    }

    private static void ringGoesByLinesThere() {
        WayWeights x = round(6);
        due.is("all there", x.ring(0, 20), 0);
        x.mark(2, 1, true);
        due.is("one AWAY", x.ring(0, 20), -6);
        x.mark(2, 1, false);
        due.is("there again", x.ring(0, 20), 0);
    }

    private static void isState(String what, WayWeights x) {
        for (int weight = 1; weight <= 20; weight++) {
            due.is(what + ": ring(0, " + weight + ")", x.ring(0, weight), -3);
            due.is(what + ": between(0, " + weight + ")", x.between(0, weight), -3);
            due.is(what + ": value(0, " + weight + ", 0)", x.value(0, weight, 0), -3);
            due.is(what + ": value(0, " + weight + ", 9)", x.value(0, weight, 9), -3);
        }
    }

    private static void ringOfALineAway() {
        WayWeights x = round(6);
        x.mark(0, 1, true);
        isState("AWAY", x);
        x.mark(0, 0, true);
        isState("AWAY and STILL", x);
        due.is("another line", x.ring(1, 20), -6);
        x.mark(0, 1, false);
        due.is("STILL alone", x.ring(0, 20), 0);
    }

    private static void ringOfALineStill() {
        WayWeights x = round(6);
        x.mark(0, 0, true);
        due.is("STILL: ring", x.ring(0, 20), 0);
        due.is("STILL: between", x.between(0, 20), 3);
        due.is("STILL: value", x.value(0, 20, 0), 2);
    }

    private static void weightsOneAndTwenty() {
        WayWeights x = round(6);
        x.weigh(0, 10);
        due.is("ring to 1", x.ring(0, 1), 0);
        due.is("ring to 20", x.ring(0, 20), -6);
        due.is("between to 1", x.between(0, 1), 3);
        due.is("between to 20", x.between(0, 20), 1);
        due.is("value to 1, the last", x.value(0, 1, 2), 1);
        due.is("value to 20, the last", x.value(0, 20, 0), 20);
    }

    private static void weightsOutside() {
        WayWeights x = round(6);
        for (int weight : new int[] {0, 21, -1, -20, LEAST, GREATEST}) {
            due.is("ring(0, " + weight + ")", x.ring(0, weight), -2);
            due.is("between(0, " + weight + ")", x.between(0, weight), -2);
            due.is("value(0, " + weight + ", 0)", x.value(0, weight, 0), -2);
        }
    }

    private static void linesUnknown() {
        WayWeights x = round(6);
        for (int line : new int[] {-1, 6, 10, 32, LEAST, GREATEST}) {
            due.is("ring(" + line + ", 5)", x.ring(line, 5), -1);
            due.is("between(" + line + ", 5)", x.between(line, 5), -1);
            due.is("value(" + line + ", 5, 0)", x.value(line, 5, 0), -1);
        }
    }

    private static void betweenNone() {
        WayWeights x = round(6);
        due.is("it is that", x.between(0, 1), 0);
        due.is("it is that: value 0", x.value(0, 1, 0), -6);
        due.is("it is that: value -1", x.value(0, 1, -1), -6);
    }

    private static void betweenOne() {
        WayWeights x = round(6);
        due.is("one change", x.between(0, 2), 1);
        due.is("one change: value 0", x.value(0, 2, 0), 2);
        due.is("one change: value 1", x.value(0, 2, 1), -6);
        due.is("one change: value -1", x.value(0, 2, -1), -6);
    }

    private static void betweenManyEndsWithTheWeight() {
        for (int weight = 6; weight <= 20; weight++) {
            WayWeights x = round(6);
            int count = x.between(0, weight);
            due.is("to " + weight, count, 3);
            due.is("to " + weight + ": the last", x.value(0, weight, count - 1), weight);
            due.is("to " + weight + ": none behind", x.value(0, weight, count), -6);
        }
    }

    /**
     * A round with weights 1, 1, 1, 2, 6 and 4. For 0 the BOXES 1, 2, 3, 4 turn round where line 0 weighs 14, 12,
     * 10, 6, for 5 the BOXES 1, 2, 3 where it weighs 6, 4, 2, so that no SAFE change goes from 2 or less to 4 or
     * more, from 4 to 6, from 6 to 10, from 10 to 12, from 12 to 14. Of 7, 8, 9 the least is taken.
     */
    private static void betweenIsByLeastValues() {
        WayWeights x = new WayWeights();
        x.boxes(6);
        int[] weights = {1, 1, 1, 2, 6, 4};
        for (int box = 0; box < 6; box++) {
            x.line(box, (box + 1) % 6, 1, weights[box]);
        }
        int[] wanted = {3, 5, 7, 11, 13, 14, -6};
        due.is("six changes", x.between(0, 14), 6);
        for (int i = 0; i < 7; i++) {
            due.is("six changes: value " + i, x.value(0, 14, i), wanted[i]);
        }
        due.is("six changes to 20", x.between(0, 20), 6);
        due.is("six changes to 20: value 4", x.value(0, 20, 4), 13);
        due.is("six changes to 20: value 5", x.value(0, 20, 5), 20);
        due.is("five changes", x.between(0, 13), 5);
        due.is("five changes: value 2", x.value(0, 13, 2), 7);
    }

    private static void betweenDownwards() {
        WayWeights x = round(6);
        x.weigh(0, 20);
        due.is("downwards", x.between(0, 1), 3);
        due.is("downwards: value 0", x.value(0, 1, 0), 4);
        due.is("downwards: value 1", x.value(0, 1, 1), 2);
        due.is("downwards: value 2", x.value(0, 1, 2), 1);
        due.is("downwards: value 3", x.value(0, 1, 3), -6);
    }

    private static void valueBeyondTheRow() {
        WayWeights x = round(6);
        for (int i : new int[] {-1, -3, 3, 4, 19, 20, 21, LEAST, LEAST + 1, GREATEST, GREATEST - 1}) {
            due.is("value(0, 20, " + i + ")", x.value(0, 20, i), -6);
        }
    }

    private static void eachChangeOfARowIsSafe() {
        WayWeights x = round(6);
        int[] row = {x.value(0, 20, 0), x.value(0, 20, 1), x.value(0, 20, 2)};
        due.is("at once there is a ring", x.ring(0, 20), 0);
        for (int value : row) {
            due.is("no ring to " + value, x.ring(0, value), -6);
            due.is("one change to " + value, x.between(0, value), 1);
            x.weigh(0, value);
        }
        due.is("it is there", x.about(0, 3), 20);
    }
}
