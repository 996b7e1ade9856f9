import java.util.List;
import java.util.function.Supplier;
import java.util.function.ToLongFunction;

/** Calls that are refused change nothing that later calls show, and so do calls that only ask. */
public final class RefusedTest {
    private static final long LOST = -1000000000000000000L;
    private static final Due due = new Due();

    public static void main(String[] args) {
        snapshotShows();
        findIsNotAsItWas();
        for (Call call : Calls.all()) {
            outsideChangesNothing(call);
        }
        for (Call call : Calls.ASKING) {
            askingChangesNothing(call);
        }
        oneBoxChangesNothing();
        fullChangesNothing();
        noChangesNothing();
        awayChangesNothing();
        withoutFindChangesNothing();
        noneChangesNothing();
        due.finish();
    }

    private static void changesNothing(String what, Supplier<WayWeights> net, ToLongFunction<WayWeights> call,
            long wanted) {
        List<String> before = Snapshot.of(net.get());
        WayWeights x = net.get();
        due.is(what, call.applyAsLong(x), wanted);
        List<String> after = Snapshot.of(x);
        for (int i = 0; i < before.size(); i++) {
            due.holds(what + ": " + before.get(i) + ", then " + after.get(i), before.get(i).equals(after.get(i)));
        }
    }

    /** What tells something is to be seen in a snapshot, or the other tests here would say little. */
    private static void snapshotShows() {
        List<String> before = Snapshot.of(Calls.usualNet());
        for (Call call : Calls.TELLING) {
            WayWeights x = Calls.usualNet();
            call.ask(x, call.usual());
            due.holds(call.text(call.usual()) + " is shown", !before.equals(Snapshot.of(x)));
        }
    }

    /** A find that is lost is to be seen, so there must be one that is other than the weights. */
    private static void findIsNotAsItWas() {
        WayWeights x = Calls.usualNet();
        int[] wanted = {1, 1, 2, 1, 1};
        for (int line = 0; line < 5; line++) {
            due.is("usual net: sought(" + line + ")", x.sought(line), wanted[line]);
        }
        due.is("usual net: take()", x.take(), 2);
    }

    private static void outsideChangesNothing(Call call) {
        for (int place = 0; place < call.usual().length; place++) {
            Call.Bound bound = call.bounds()[place];
            for (int number : bound.outside()) {
                int[] at = call.usualBut(place, number);
                changesNothing(call.text(at), Calls::usualNet, x -> call.ask(x, at), call.tells(bound.refusal()));
            }
        }
    }

    private static void askingChangesNothing(Call call) {
        long answer = call.ask(Calls.usualNet(), call.usual());
        changesNothing(call.text(call.usual()), Calls::usualNet, x -> call.ask(x, call.usual()), answer);
    }

    private static void oneBoxChangesNothing() {
        changesNothing("line: one box", Calls::usualNet, x -> x.line(2, 2, 5, 5), -1);
        changesNothing("load: one box", Calls::usualNet, x -> x.load(0, 2, 2, 5), -1);
    }

    private static WayWeights fullNet() {
        WayWeights x = Calls.usualNet();
        for (int line = 5; line < 10; line++) {
            x.line(line % 4, (line + 1) % 4, line, line);
        }
        x.seek(2, 5);
        return x;
    }

    private static void fullChangesNothing() {
        changesNothing("line: FULL", RefusedTest::fullNet, x -> x.line(0, 1, 1, 1), -4);
        changesNothing("line: FULL, as a line that is there", RefusedTest::fullNet, x -> x.line(0, 1, 10, 1), -4);
    }

    private static WayWeights markedNet(int what) {
        WayWeights x = Calls.usualNet();
        x.mark(0, what, true);
        x.seek(2, 2);
        return x;
    }

    private static void noChangesNothing() {
        for (int weight : new int[] {1, 2, 20}) {
            changesNothing("weigh: NO, " + weight, () -> markedNet(0), x -> x.weigh(0, weight), -5);
        }
    }

    private static void awayChangesNothing() {
        changesNothing("ring: STATE", () -> markedNet(1), x -> x.ring(0, 20), -3);
        changesNothing("between: STATE", () -> markedNet(1), x -> x.between(0, 20), -3);
        changesNothing("value: STATE", () -> markedNet(1), x -> x.value(0, 20, 0), -3);
    }

    private static WayWeights netWithoutFind() {
        WayWeights x = Calls.usualNet();
        x.weigh(4, 2);
        return x;
    }

    private static void withoutFindChangesNothing() {
        changesNothing("sought: STATE", RefusedTest::netWithoutFind, x -> x.sought(0), -3);
        changesNothing("better: STATE", RefusedTest::netWithoutFind, x -> x.better(0), LOST - 3);
        changesNothing("take: STATE", RefusedTest::netWithoutFind, WayWeights::take, -3);
        changesNothing("seek: OUTSIDE", RefusedTest::netWithoutFind, x -> x.seek(3, 2), -2);
    }

    private static void noneChangesNothing() {
        changesNothing("grow: NONE", Calls::usualNet, x -> x.grow(2, 0), LOST - 6);
        changesNothing("year: NONE", Calls::usualNet, x -> x.year(2, 100), -6);
        changesNothing("who: NONE", Calls::usualNet, x -> x.who(2, 0, 0), -6);
        changesNothing("ring: NONE", Calls::usualNet, x -> x.ring(0, 1), -6);
        changesNothing("value: NONE", Calls::usualNet, x -> x.value(0, 20, 9), -6);
    }
}
