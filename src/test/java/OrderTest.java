/** Which refusal is told where several fit: UNKNOWN, OUTSIDE, STATE, FULL, NO, but for what is told as ahead. */
public final class OrderTest {
    private static final long LOST = -1000000000000000000L;
    private static final Due due = new Due();

    public static void main(String[] args) {
        for (Call call : Calls.all()) {
            twoAreWrong(call);
            allAreWrong(call);
        }
        oneBoxAheadOfOutside();
        fullIsBehind();
        noIsBehind();
        stateIsBehind();
        stateIsAhead();
        noneIsBehind();
        due.finish();
    }

    /** UNKNOWN, -1, is ahead of OUTSIDE, -2, whichever stands first among the numbers. */
    private static int firstOf(int one, int other) {
        return Math.max(one, other);
    }

    private static void twoAreWrong(Call call) {
        Call.Bound[] bounds = call.bounds();
        for (int one = 0; one < bounds.length; one++) {
            for (int other = one + 1; other < bounds.length; other++) {
                for (int kind = 0; kind < 4; kind++) {
                    int[] at = call.usualBut(one, bounds[one].outside()[kind]);
                    at[other] = bounds[other].outside()[3 - kind];
                    due.is(call.text(at), call.ask(Calls.usualNet(), at),
                            call.tells(firstOf(bounds[one].refusal(), bounds[other].refusal())));
                }
            }
        }
    }

    private static void allAreWrong(Call call) {
        int[] at = call.usual().clone();
        int refusal = -2;
        for (int place = 0; place < at.length; place++) {
            at[place] = call.bounds()[place].outside()[0];
            refusal = firstOf(refusal, call.bounds()[place].refusal());
        }
        due.is(call.text(at), call.ask(Calls.usualNet(), at), call.tells(refusal));
    }

    private static void oneBoxAheadOfOutside() {
        WayWeights x = Calls.usualNet();
        due.is("line: one box, room 0", x.line(1, 1, 0, 5), -1);
        due.is("line: one box, weight 21", x.line(1, 1, 5, 21), -1);
        due.is("load: one box, 51", x.load(0, 1, 1, 51), -1);
        due.is("load: one box, -1", x.load(0, 1, 1, -1), -1);
    }

    private static WayWeights tenLines() {
        WayWeights x = Calls.usualNet();
        for (int i = 5; i < 10; i++) {
            x.line(0, 1, 5, 5);
        }
        return x;
    }

    private static void fullIsBehind() {
        WayWeights x = tenLines();
        due.is("FULL", x.line(0, 1, 5, 5), -4);
        due.is("FULL, box 4", x.line(4, 1, 5, 5), -1);
        due.is("FULL, box -1", x.line(0, -1, 5, 5), -1);
        due.is("FULL, one box", x.line(2, 2, 5, 5), -1);
        due.is("FULL, room 0", x.line(0, 1, 0, 5), -2);
        due.is("FULL, room 101", x.line(0, 1, 101, 5), -2);
        due.is("FULL, weight 0", x.line(0, 1, 5, 0), -2);
        due.is("FULL, weight 21", x.line(0, 1, 5, 21), -2);
        due.is("FULL, box and room", x.line(4, 1, 0, 5), -1);
    }

    private static void noIsBehind() {
        WayWeights x = Calls.usualNet();
        for (int line = 0; line < 5; line++) {
            x.mark(line, 0, true);
        }
        due.is("NO", x.weigh(4, 5), -5);
        due.is("NO, weight 0", x.weigh(4, 0), -2);
        due.is("NO, weight 21", x.weigh(4, 21), -2);
        due.is("NO, line 5", x.weigh(5, 5), -1);
        due.is("NO, line 5, weight 0", x.weigh(5, 0), -1);
    }

    private static void isStateBehind(String call, long away, long outside, long unknown) {
        due.is(call + ": STATE", away, -3);
        due.is(call + ": OUTSIDE ahead of STATE", outside, -2);
        due.is(call + ": UNKNOWN ahead of STATE", unknown, -1);
    }

    private static void stateIsBehind() {
        WayWeights x = Calls.usualNet();
        for (int line = 0; line < 5; line++) {
            x.mark(line, 1, true);
        }
        isStateBehind("ring", x.ring(0, 5), x.ring(0, 21), x.ring(5, 5));
        isStateBehind("between", x.between(0, 5), x.between(0, 0), x.between(-1, 5));
        isStateBehind("value", x.value(0, 5, 0), x.value(0, 21, 0), x.value(5, 5, 0));
        due.is("value: STATE ahead of NONE", x.value(0, 5, -1), -3);
        due.is("value: OUTSIDE ahead of NONE", x.value(0, 0, -1), -2);
        due.is("value: UNKNOWN ahead of NONE", x.value(5, 5, -1), -1);
    }

    private static void stateIsAhead() {
        WayWeights x = Calls.usualNet();
        due.is("sought: UNKNOWN alone", x.sought(5), -1);
        due.is("better: OUTSIDE alone", x.better(2), LOST - 2);
        x.guard(true);
        for (int line : new int[] {-1, 5, Integer.MIN_VALUE, Integer.MAX_VALUE}) {
            due.is("sought(" + line + "): STATE ahead of UNKNOWN", x.sought(line), -3);
        }
        for (int part : new int[] {-1, 2, Integer.MIN_VALUE, Integer.MAX_VALUE}) {
            due.is("better(" + part + "): STATE ahead of OUTSIDE", x.better(part), LOST - 3);
        }
    }

    private static void noneIsBehind() {
        WayWeights x = Calls.usualNet();
        due.is("grow: NONE", x.grow(2, 0), LOST - 6);
        due.is("grow: OUTSIDE ahead of NONE", x.grow(2, 2), LOST - 2);
        due.is("grow: UNKNOWN ahead of NONE", x.grow(3, 2), LOST - 1);
        due.is("who: NONE", x.who(2, 0, 0), -6);
        due.is("who: OUTSIDE ahead of NONE", x.who(2, 0, 2), -2);
        due.is("year: NONE", x.year(2, 1), -6);
        due.is("year: OUTSIDE ahead of NONE", x.year(2, 0), -2);
    }
}
