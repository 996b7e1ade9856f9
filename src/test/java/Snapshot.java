import java.util.ArrayList;
import java.util.List;

/** What an object shows by its answers, within the calls for which it may be used. It spends the object. */
final class Snapshot {
    private static final int CALLS_LEFT = 490;

    private final WayWeights x;
    private final List<String> answers = new ArrayList<>();

    private Snapshot(WayWeights x) {
        this.x = x;
    }

    static List<String> of(WayWeights x) {
        Snapshot snapshot = new Snapshot(x);
        int boxes = x.told(0);
        int lines = x.told(1);
        snapshot.askTold();
        snapshot.askFound(lines);
        snapshot.askLines(lines);
        snapshot.askWays(boxes, lines);
        snapshot.askTables(lines);
        snapshot.askNews(lines);
        snapshot.takeFound(lines);
        snapshot.emptyTables(boxes);
        if (snapshot.answers.size() > CALLS_LEFT) {
            throw new IllegalStateException(snapshot.answers.size() + " calls are more than an object is for");
        }
        return snapshot.answers;
    }

    private void add(String call, long answer) {
        answers.add(call + " = " + answer);
    }

    private void askTold() {
        for (int what = 0; what < 8; what++) {
            add("told(" + what + ")", x.told(what));
        }
        for (int what = 0; what < 4; what++) {
            add("all(" + what + ")", x.all(what));
        }
    }

    private void askFound(int lines) {
        for (int line = 0; line < lines; line++) {
            add("sought(" + line + ")", x.sought(line));
        }
        add("better(0)", x.better(0));
        add("better(1)", x.better(1));
    }

    private void askLines(int lines) {
        for (int line = 0; line < lines; line++) {
            for (int what = 0; what < 6; what++) {
                add("about(" + line + ", " + what + ")", x.about(line, what));
            }
        }
    }

    private void askWays(int boxes, int lines) {
        for (int from = 0; from < boxes; from++) {
            for (int to = 0; to < boxes; to++) {
                add("least(" + from + ", " + to + ")", x.least(from, to));
                add("next(" + from + ", " + to + ")", x.next(from, to));
            }
        }
        for (int line = 0; line < lines; line++) {
            for (int part = 0; part < 2; part++) {
                add("share to the last on " + line, x.share(0, boxes - 1, line, 0, part));
                add("share to the first on " + line, x.share(boxes - 1, 0, line, 1, part));
            }
        }
    }

    private void askTables(int lines) {
        for (int table = 0; table < 3; table++) {
            for (int what = 0; what < 4; what++) {
                add("worst(" + table + ", " + what + ")", x.worst(table, what));
            }
            for (int line = 0; line < lines; line++) {
                add("on(" + table + ", " + line + ", 0)", x.on(table, line, 0, 0));
                add("on(" + table + ", " + line + ", 1)", x.on(table, line, 1, 0));
                add("who(" + table + ", " + line + ", 0)", x.who(table, line, 0));
                add("parted(" + table + ", " + line + ")", x.parted(table, line));
            }
            add("grow(" + table + ", 0)", x.grow(table, 0));
            add("grow(" + table + ", 1)", x.grow(table, 1));
            add("year(" + table + ", 1)", x.year(table, 1));
        }
    }

    private void askNews(int lines) {
        for (int line = 0; line < lines; line++) {
            add("ring(" + line + ", 20)", x.ring(line, 20));
            add("between(" + line + ", 20)", x.between(line, 20));
            add("value(" + line + ", 20, 0)", x.value(line, 20, 0));
        }
    }

    private void takeFound(int lines) {
        add("take()", x.take());
        for (int line = 0; line < lines; line++) {
            add("about(" + line + ", 3) then", x.about(line, 3));
        }
    }

    private void emptyTables(int boxes) {
        for (int table = 0; table < 3; table++) {
            for (int from = 0; from < boxes; from++) {
                for (int to = 0; to < boxes; to++) {
                    if (from != to) {
                        add("load(" + table + ", " + from + ", " + to + ", 0)", x.load(table, from, to, 0));
                    }
                }
            }
        }
    }
}
