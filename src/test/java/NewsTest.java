/** Promises 21 to 23: rings, and values between. */
public final class NewsTest {
    private static final Due due = new Due();

    public static void main(String[] args) {
        ring();
        leastTarget();
        longRing();
        noRing();
        between();
        value();
        stillIsNoHindrance();
        refused();
        asksChangeNothing();
        due.finish();
    }

    private static WayWeights triangle(int near, int mid, int far) {
        WayWeights x = new WayWeights();
        x.boxes(3);
        x.line(far, mid, 10, 2);
        x.line(mid, near, 10, 2);
        x.line(far, near, 10, 9);
        return x;
    }

    private static void ring() {
        WayWeights x = triangle(2, 1, 0);
        // For 0: as it is 2 goes by 1; 1 turns to 2 as soon as its line is as heavy as the way round, 11.
        for (int weight = 1; weight <= 20; weight++) {
            due.is("ring(0, " + weight + ")", x.ring(0, weight), weight < 11 ? -6 : 0);
        }
        for (int weight = 1; weight <= 20; weight++) {
            due.is("ring(2, " + weight + ")", x.ring(2, weight), -6);
        }
    }

    private static void leastTarget() {
        due.is("ring for 2", triangle(0, 1, 2).ring(0, 20), 2);
        due.is("ring for 1", triangle(0, 2, 1).ring(0, 20), 1);
        WayWeights x = triangle(0, 1, 2);
        x.weigh(0, 20);
        due.is("ring, the other way about", x.ring(0, 2), 2);
        due.is("ring: the weight that it has", x.ring(0, 20), -6);
        WayWeights square = new WayWeights();
        for (int box = 0; box < 4; box++) {
            square.line((box + 2) % 4, (box + 3) % 4, 1, 1);
        }
        // Line 1 joins 3 and 0: both are targets for which there is a ring.
        due.is("ring: the least of two", square.ring(1, 20), 0);
        due.is("ring: the least of 2 and 3", square.ring(0, 20), 2);
    }

    /** A ring of three lines one way, though none of them is gone both ways: only its whole round is a ring. */
    private static void longRing() {
        WayWeights x = new WayWeights();
        x.boxes(5);
        x.line(0, 1, 1, 1);
        x.line(1, 2, 1, 1);
        x.line(2, 3, 1, 1);
        x.line(3, 1, 1, 1);
        x.line(2, 0, 1, 10);
        // For 0: as it is 2 and 3 go to 1. By weight 20 of line 0: 2 goes to 0; 1 and 3 go to 2.
        due.is("ring by line 0", x.ring(0, 20), 0);
        x.boxes(4);
        x.line(0, 1, 1, 1);
        x.line(1, 2, 1, 1);
        x.line(2, 3, 1, 1);
        due.is("a row of boxes has no ring", x.ring(0, 20), -6);
    }

    private static void noRing() {
        WayWeights x = new WayWeights();
        x.boxes(2);
        x.line(0, 1, 1, 1);
        x.line(0, 1, 1, 5);
        due.is("two boxes", x.ring(0, 20), -6);
        due.is("two boxes: between", x.between(0, 20), 1);
        WayWeights y = triangle(2, 1, 0);
        y.mark(2, 1, true);
        due.is("the way round is AWAY", y.ring(0, 20), -6);
    }

    private static void between() {
        WayWeights x = triangle(2, 1, 0);
        for (int weight = 1; weight <= 20; weight++) {
            due.is("between(0, " + weight + ")", x.between(0, weight), weight == 2 ? 0 : weight < 11 ? 1 : 2);
        }
        x.weigh(0, 20);
        due.is("between, the other way about", x.between(0, 2), 2);
        // A long way round: steps from 1 are as wide as the weights of the lines that it must turn at.
        WayWeights y = new WayWeights();
        y.boxes(6);
        for (int box = 0; box < 5; box++) {
            y.line(box, box + 1, 1, 1);
        }
        y.line(5, 0, 1, 1);
        due.is("between on a round of six", y.between(0, 20), 3);
    }

    private static void value() {
        WayWeights x = triangle(2, 1, 0);
        // From 2 to 20 by the least value at which 2 goes straight to 0, that is above 7.
        due.is("value(0, 20, 0)", x.value(0, 20, 0), 8);
        due.is("value(0, 20, 1)", x.value(0, 20, 1), 20);
        due.is("value(0, 20, 2)", x.value(0, 20, 2), -6);
        due.is("value(0, 20, -1)", x.value(0, 20, -1), -6);
        due.is("value: most", x.value(0, 20, Integer.MAX_VALUE), -6);
        due.is("value: one change", x.value(0, 9, 0), 9);
        due.is("value: one change, no more", x.value(0, 9, 1), -6);
        due.is("value: no change", x.value(0, 2, 0), -6);
        x.weigh(0, 20);
        due.is("value, the other way about", x.value(0, 2, 0), 8);
        due.is("value, the other way about, 1", x.value(0, 2, 1), 2);
        WayWeights y = new WayWeights();
        y.boxes(6);
        for (int box = 0; box < 6; box++) {
            y.line(box, (box + 1) % 6, 1, 1);
        }
        due.is("value of three, 0", y.value(0, 20, 0), 2);
        due.is("value of three, 1", y.value(0, 20, 1), 4);
        due.is("value of three, 2", y.value(0, 20, 2), 20);
        due.is("value of three, 3", y.value(0, 20, 3), -6);
    }

    private static void stillIsNoHindrance() {
        WayWeights x = triangle(2, 1, 0);
        x.mark(0, 0, true);
        due.is("STILL: ring", x.ring(0, 20), 0);
        due.is("STILL: between", x.between(0, 20), 2);
        due.is("STILL: value", x.value(0, 20, 0), 8);
    }

    private static void isRefused(String what, WayWeights x, int[] at, int wanted) {
        due.is("ring: " + what, x.ring(at[0], at[1]), wanted);
        due.is("between: " + what, x.between(at[0], at[1]), wanted);
        due.is("value: " + what, x.value(at[0], at[1], 0), wanted);
        due.is("value: " + what + ", -1", x.value(at[0], at[1], -1), wanted);
    }

    private static void refused() {
        WayWeights x = triangle(2, 1, 0);
        isRefused("line 3", x, new int[] {3, 5}, -1);
        isRefused("line -1", x, new int[] {-1, 5}, -1);
        isRefused("UNKNOWN ahead", x, new int[] {3, 0}, -1);
        isRefused("weight 0", x, new int[] {0, 0}, -2);
        isRefused("weight 21", x, new int[] {0, 21}, -2);
        x.mark(0, 1, true);
        isRefused("AWAY", x, new int[] {0, 5}, -3);
        isRefused("AWAY, the weight that it has", x, new int[] {0, 2}, -3);
        isRefused("OUTSIDE ahead of STATE", x, new int[] {0, 21}, -2);
    }

    private static void asksChangeNothing() {
        WayWeights x = triangle(2, 1, 0);
        x.ring(0, 20);
        x.between(0, 20);
        x.value(0, 20, 0);
        due.is("the weight stays", x.about(0, 3), 2);
        due.is("the ways stay", x.least(2, 0), 4);
        due.is("the next stay", x.next(2, 0), 2);
    }
}
