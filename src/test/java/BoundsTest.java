/** At each bound of each call: the last number that is taken, the first that is refused, and the farthest ones. */
public final class BoundsTest {
    private static final Due due = new Due();

    public static void main(String[] args) {
        for (Call call : Calls.all()) {
            usualIsTaken(call);
            for (int place = 0; place < call.usual().length; place++) {
                lastIsTaken(call, place);
                firstIsRefused(call, place);
            }
        }
        boxesGoByHowManyThereAre();
        linesGoByHowManyThereAre();
        oneBoxIsRefused();
        oneBoxIsTaken();
        due.finish();
    }

    private static void isTaken(Call call, int[] at) {
        long answer = call.ask(Calls.usualNet(), at);
        due.holds(call.text(at) + " is taken, answered " + answer, !call.isRefused(answer));
    }

    private static void usualIsTaken(Call call) {
        isTaken(call, call.usual());
    }

    private static void lastIsTaken(Call call, int place) {
        isTaken(call, call.usualBut(place, call.bounds()[place].least()));
        isTaken(call, call.usualBut(place, call.bounds()[place].most()));
    }

    private static void firstIsRefused(Call call, int place) {
        Call.Bound bound = call.bounds()[place];
        for (int number : bound.outside()) {
            int[] at = call.usualBut(place, number);
            due.is(call.text(at), call.ask(Calls.usualNet(), at), call.tells(bound.refusal()));
        }
    }

    /** The last BOX is taken and the one behind it is not, for each number of BOXES. */
    private static void boxesGoByHowManyThereAre() {
        for (int n = 2; n <= 6; n++) {
            WayWeights x = new WayWeights();
            x.boxes(n);
            String net = n + " boxes: ";
            due.is(net + "line to the last", x.line(0, n - 1, 1, 1), 0);
            due.is(net + "line from the last", x.line(n - 1, 0, 1, 1), 1);
            due.is(net + "line beyond", x.line(0, n, 1, 1), -1);
            due.is(net + "line from beyond", x.line(n, 0, 1, 1), -1);
            due.is(net + "load to the last", x.load(0, 0, n - 1, 1), 0);
            due.is(net + "load to beyond", x.load(0, 0, n, 1), -1);
            due.is(net + "load from beyond", x.load(0, n, 0, 1), -1);
            due.is(net + "least to the last", x.least(0, n - 1), 1);
            due.is(net + "least to beyond", x.least(0, n), -1);
            due.is(net + "least from beyond", x.least(n, 0), -1);
            due.is(net + "next to the last", x.next(0, n - 1), 3);
            due.is(net + "next to beyond", x.next(0, n), -1);
            due.is(net + "next from beyond", x.next(n, 0), -1);
            due.is(net + "share to the last", x.share(0, n - 1, 0, 0, 1), 2);
            due.is(net + "share to beyond", x.share(0, n, 0, 0, 1), WayWeights.LOST - 1);
            due.is(net + "share from beyond", x.share(n, 0, 0, 0, 1), WayWeights.LOST - 1);
        }
    }

    /** The last LINE is taken and the one behind it is not, for each number of LINES, none and ten too. */
    private static void linesGoByHowManyThereAre() {
        for (int lines = 0; lines <= 10; lines++) {
            WayWeights x = new WayWeights();
            for (int line = 0; line < lines; line++) {
                x.line(0, 1, 1, 1);
            }
            x.seek(1, 0);
            for (Call call : Calls.all()) {
                for (int place = 0; place < call.usual().length; place++) {
                    boolean isLine = call.bounds()[place].refusal() == -1 && call.bounds()[place].most() == 4;
                    if (isLine) {
                        lineGoesByHowMany(call, place, x, lines);
                    }
                }
            }
        }
    }

    private static void lineGoesByHowMany(Call call, int place, WayWeights x, int lines) {
        String net = lines + " lines: ";
        boolean isAsking = java.util.Arrays.asList(Calls.ASKING).contains(call);
        int[] last = call.usualBut(place, lines - 1);
        if (isAsking && lines > 0) {
            long answer = call.ask(x, last);
            due.holds(net + call.text(last) + " is taken, answered " + answer, !call.isRefused(answer));
        }
        int[] beyond = call.usualBut(place, lines);
        due.is(net + call.text(beyond), call.ask(x, beyond), call.tells(-1));
    }

    private static void oneBoxIsRefused() {
        for (int box = 0; box < 4; box++) {
            WayWeights x = Calls.usualNet();
            due.is("line(" + box + ", " + box + ")", x.line(box, box, 5, 5), -1);
            due.is("load(" + box + ", " + box + ")", x.load(0, box, box, 5), -1);
            due.is("load of 0 (" + box + ", " + box + ")", x.load(0, box, box, 0), -1);
        }
    }

    private static void oneBoxIsTaken() {
        for (int box = 0; box < 4; box++) {
            WayWeights x = Calls.usualNet();
            due.is("least(" + box + ", " + box + ")", x.least(box, box), 0);
            due.is("next(" + box + ", " + box + ")", x.next(box, box), 0);
            due.is("share(" + box + ", " + box + "), upper", x.share(box, box, 0, 0, 0), 0);
            due.is("share(" + box + ", " + box + "), lower", x.share(box, box, 0, 0, 1), 1);
        }
    }
}
