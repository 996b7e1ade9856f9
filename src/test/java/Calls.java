/** Every call that takes numbers, with its bounds on the usual net: 4 BOXES, 5 LINES, found weights. */
final class Calls {
    private static final Call.Bound BOX = new Call.Bound(0, 3, -1);
    private static final Call.Bound LINE = new Call.Bound(0, 4, -1);
    private static final Call.Bound TABLE = new Call.Bound(0, 2, -1);
    private static final Call.Bound WEIGHT = new Call.Bound(1, 20, -2);
    private static final Call.Bound TWO = new Call.Bound(0, 1, -2);
    private static final Call.Bound FOUR = new Call.Bound(0, 3, -2);

    private Calls() {
    }

    /** Calls that tell the object something, if they go. */
    static final Call[] TELLING = {
        whole("boxes", (x, at) -> x.boxes(at[0]), numbers(3), new Call.Bound(2, 6, -2)),
        whole("line", (x, at) -> x.line(at[0], at[1], at[2], at[3]), numbers(1, 2, 5, 5),
                BOX, BOX, new Call.Bound(1, 100, -2), WEIGHT),
        whole("weigh", (x, at) -> x.weigh(at[0], at[1]), numbers(2, 7), LINE, WEIGHT),
        whole("mark", (x, at) -> x.mark(at[0], at[1], true), numbers(2, 0), LINE, TWO),
        whole("load", (x, at) -> x.load(at[0], at[1], at[2], at[3]), numbers(1, 1, 2, 6),
                TABLE, BOX, BOX, new Call.Bound(0, 50, -2)),
        whole("seek", (x, at) -> x.seek(at[0], at[1]), numbers(1, 1),
                new Call.Bound(1, 2, -2), new Call.Bound(0, 10, -2)),
    };

    /** Calls that ask. */
    static final Call[] ASKING = {
        whole("about", (x, at) -> x.about(at[0], at[1]), numbers(2, 2), LINE, new Call.Bound(0, 5, -2)),
        whole("least", (x, at) -> x.least(at[0], at[1]), numbers(1, 2), BOX, BOX),
        whole("next", (x, at) -> x.next(at[0], at[1]), numbers(1, 2), BOX, BOX),
        fraction("share", (x, at) -> x.share(at[0], at[1], at[2], at[3], at[4]), numbers(0, 3, 2, 0, 0),
                BOX, BOX, LINE, TWO, TWO),
        fraction("on", (x, at) -> x.on(at[0], at[1], at[2], at[3]), numbers(0, 2, 0, 0), TABLE, LINE, TWO, TWO),
        fraction("worst", (x, at) -> x.worst(at[0], at[1]), numbers(1, 1), TABLE, FOUR),
        fraction("all", (x, at) -> x.all(at[0]), numbers(1), FOUR),
        whole("parted", (x, at) -> x.parted(at[0], at[1]), numbers(1, 1), TABLE, new Call.Bound(-1, 4, -1)),
        whole("who", (x, at) -> x.who(at[0], at[1], at[2]), numbers(0, 2, 0), TABLE, LINE, TWO),
        whole("sought", (x, at) -> x.sought(at[0]), numbers(2), LINE),
        fraction("better", (x, at) -> x.better(at[0]), numbers(0), TWO),
        whole("ring", (x, at) -> x.ring(at[0], at[1]), numbers(0, 10), LINE, WEIGHT),
        whole("between", (x, at) -> x.between(at[0], at[1]), numbers(0, 10), LINE, WEIGHT),
        whole("value of 0", (x, at) -> x.value(at[0], at[1], 0), numbers(0, 10), LINE, WEIGHT),
        whole("value of -1", (x, at) -> x.value(at[0], at[1], -1), numbers(0, 10), LINE, WEIGHT),
        fraction("grow", (x, at) -> x.grow(at[0], at[1]), numbers(0, 0), TABLE, TWO),
        whole("year", (x, at) -> x.year(at[0], at[1]), numbers(0, 5), TABLE, new Call.Bound(1, 100, -2)),
        whole("told", (x, at) -> x.told(at[0]), numbers(5), new Call.Bound(0, 7, -2)),
    };

    static Call[] all() {
        Call[] all = java.util.Arrays.copyOf(TELLING, TELLING.length + ASKING.length);
        System.arraycopy(ASKING, 0, all, TELLING.length, ASKING.length);
        return all;
    }

    /** The net of the bounds above: no line is STILL or AWAY, so that each call can go; two changes are found. */
    static WayWeights usualNet() {
        WayWeights x = new WayWeights();
        x.line(0, 1, 10, 1);
        x.line(1, 2, 15, 1);
        x.line(0, 2, 7, 2);
        x.line(2, 3, 20, 3);
        x.line(0, 3, 7, 5);
        x.load(0, 0, 3, 12);
        x.load(0, 3, 0, 5);
        x.load(1, 1, 2, 22);
        x.guard(true);
        x.seek(2, 2);
        return x;
    }

    private static int[] numbers(int... numbers) {
        return numbers;
    }

    private static Call whole(String name, Call.Answer answer, int[] usual, Call.Bound... bounds) {
        return new Call(name, false, answer, usual, bounds);
    }

    private static Call fraction(String name, Call.Answer answer, int[] usual, Call.Bound... bounds) {
        return new Call(name, true, answer, usual, bounds);
    }
}
