/** Promises 1 to 9, 13 and 26: the net as it is told, and its ways. */
public final class NetTest {
    private static final Due due = new Due();

    public static void main(String[] args) {
        newObject();
        boxes();
        boxesRefused();
        line();
        lineRefused();
        about();
        weigh();
        mark();
        load();
        leastAndNext();
        awayIsAsIfItWereNot();
        guard();
        told();
        due.finish();
    }

    private static WayWeights triangle() {
        WayWeights x = new WayWeights();
        x.boxes(3);
        x.line(0, 1, 10, 2);
        x.line(1, 2, 20, 3);
        x.line(2, 0, 30, 5);
        return x;
    }

    private static void newObject() {
        WayWeights x = new WayWeights();
        due.is("new: told(0)", x.told(0), 4);
        for (int what = 1; what <= 7; what++) {
            due.is("new: told(" + what + ")", x.told(what), 0);
        }
        due.is("new: about", x.about(0, 0), -1);
        due.is("new: least", x.least(0, 3), -6);
        due.is("new: box 4", x.least(0, 4), -1);
        due.is("new: load", x.load(2, 3, 0, 1), 0);
        due.is("new: guard", x.guard(false), 0);
    }

    private static void boxes() {
        WayWeights x = triangle();
        x.mark(0, 0, true);
        x.mark(1, 1, true);
        x.guard(true);
        for (int table = 0; table < 3; table++) {
            x.load(table, 0, 2, 7);
        }
        due.is("boxes(6)", x.boxes(6), 3);
        due.is("boxes: told(0)", x.told(0), 6);
        for (int what = 1; what <= 7; what++) {
            due.is("boxes: told(" + what + ")", x.told(what), what == 4 ? 1 : 0);
        }
        due.is("boxes: a first line", x.line(4, 5, 1, 1), 0);
        due.is("boxes: it is not STILL", x.about(0, 4), 0);
        due.is("boxes: it is not AWAY", x.about(0, 5), 0);
        due.is("boxes: its load was none", x.load(1, 0, 2, 3), 0);
        due.is("boxes(2)", x.boxes(2), 6);
        due.is("boxes: as many again", x.boxes(2), 2);
        due.is("boxes: no line", x.about(0, 0), -1);
        due.is("boxes: no load", x.told(6), 0);
    }

    private static void boxesRefused() {
        WayWeights x = triangle();
        x.load(0, 0, 1, 4);
        for (int n : new int[] {1, 0, -1, 7, Integer.MIN_VALUE, Integer.MAX_VALUE}) {
            due.is("boxes(" + n + ")", x.boxes(n), -2);
        }
        due.is("boxes refused: boxes", x.told(0), 3);
        due.is("boxes refused: lines", x.told(1), 3);
        due.is("boxes refused: loads", x.told(5), 4);
    }

    private static void line() {
        WayWeights x = new WayWeights();
        due.is("line: least numbers", x.line(0, 1, 1, 1), 0);
        due.is("line: greatest numbers", x.line(3, 2, 100, 20), 1);
        due.is("line: the same two again", x.line(1, 0, 5, 5), 2);
        for (int i = 3; i < 10; i++) {
            due.is("line " + i, x.line(0, 3, 5, 5), i);
        }
        due.is("line: an eleventh", x.line(0, 3, 5, 5), -4);
        due.is("line: UNKNOWN ahead of FULL", x.line(0, 4, 5, 5), -1);
        due.is("line: OUTSIDE ahead of FULL", x.line(0, 3, 101, 5), -2);
        due.is("line: ten", x.told(1), 10);
    }

    private static void lineRefused() {
        WayWeights x = new WayWeights();
        due.is("line: one box", x.line(2, 2, 5, 5), -1);
        due.is("line: box -1", x.line(-1, 2, 5, 5), -1);
        due.is("line: box 4", x.line(4, 2, 5, 5), -1);
        due.is("line: other box -1", x.line(2, -1, 5, 5), -1);
        due.is("line: other box 4", x.line(2, 4, 5, 5), -1);
        due.is("line: UNKNOWN ahead of OUTSIDE", x.line(2, 2, 0, 0), -1);
        due.is("line: room 0", x.line(0, 1, 0, 5), -2);
        due.is("line: room 101", x.line(0, 1, 101, 5), -2);
        due.is("line: weight 0", x.line(0, 1, 5, 0), -2);
        due.is("line: weight 21", x.line(0, 1, 5, 21), -2);
        due.is("line refused: none", x.told(1), 0);
    }

    private static void about() {
        WayWeights x = triangle();
        int[] wanted = {2, 0, 30, 5, 0, 0};
        for (int what = 0; what < 6; what++) {
            due.is("about(2, " + what + ")", x.about(2, what), wanted[what]);
        }
        x.mark(2, 0, true);
        due.is("about: STILL", x.about(2, 4), 1);
        due.is("about: not AWAY", x.about(2, 5), 0);
        x.mark(2, 1, true);
        due.is("about: AWAY", x.about(2, 5), 1);
        due.is("about: another is not STILL", x.about(1, 4), 0);
        due.is("about(3, 0)", x.about(3, 0), -1);
        due.is("about(-1, 0)", x.about(-1, 0), -1);
        due.is("about: UNKNOWN ahead", x.about(3, 6), -1);
        due.is("about(0, 6)", x.about(0, 6), -2);
        due.is("about(0, -1)", x.about(0, -1), -2);
    }

    private static void weigh() {
        WayWeights x = triangle();
        due.is("weigh(0, 20)", x.weigh(0, 20), 2);
        due.is("weigh(0, 1)", x.weigh(0, 1), 20);
        due.is("weigh: the weight", x.about(0, 3), 1);
        due.is("weigh: another's weight", x.about(1, 3), 3);
        due.is("weigh(3, 1)", x.weigh(3, 1), -1);
        due.is("weigh(-1, 1)", x.weigh(-1, 1), -1);
        due.is("weigh(0, 0)", x.weigh(0, 0), -2);
        due.is("weigh(0, 21)", x.weigh(0, 21), -2);
        due.is("weigh: UNKNOWN ahead", x.weigh(3, 0), -1);
        x.mark(0, 0, true);
        due.is("weigh: STILL", x.weigh(0, 5), -5);
        due.is("weigh: OUTSIDE ahead of NO", x.weigh(0, 21), -2);
        due.is("weigh refused: the weight", x.about(0, 3), 1);
        x.mark(0, 0, false);
        x.mark(0, 1, true);
        due.is("weigh: AWAY is no hindrance", x.weigh(0, 5), 1);
    }

    private static void mark() {
        WayWeights x = triangle();
        due.is("mark(1, 0, true)", x.mark(1, 0, true), 0);
        due.is("mark(1, 0, true) again", x.mark(1, 0, true), 1);
        due.is("mark(2, 0, true)", x.mark(2, 0, true), 0);
        due.is("mark: STILL", x.told(2), 6);
        due.is("mark: none is AWAY", x.told(3), 0);
        due.is("mark(1, 0, false)", x.mark(1, 0, false), 1);
        due.is("mark(1, 0, false) again", x.mark(1, 0, false), 0);
        due.is("mark: STILL later", x.told(2), 4);
        due.is("mark(0, 1, true)", x.mark(0, 1, true), 0);
        due.is("mark(0, 1, true) again", x.mark(0, 1, true), 1);
        due.is("mark: AWAY", x.told(3), 1);
        due.is("mark(0, 1, false)", x.mark(0, 1, false), 1);
        due.is("mark: AWAY later", x.told(3), 0);
        due.is("mark(3, 0, true)", x.mark(3, 0, true), -1);
        due.is("mark(-1, 0, true)", x.mark(-1, 0, true), -1);
        due.is("mark: UNKNOWN ahead", x.mark(3, 2, true), -1);
        due.is("mark(0, 2, true)", x.mark(0, 2, true), -2);
        due.is("mark(0, -1, true)", x.mark(0, -1, true), -2);
    }

    private static void load() {
        WayWeights x = new WayWeights();
        due.is("load(0, 0, 3, 50)", x.load(0, 0, 3, 50), 0);
        due.is("load(0, 3, 0, 7)", x.load(0, 3, 0, 7), 0);
        due.is("load(0, 0, 3, 0)", x.load(0, 0, 3, 0), 50);
        due.is("load(0, 0, 3, 9)", x.load(0, 0, 3, 9), 0);
        due.is("load(2, 0, 3, 1)", x.load(2, 0, 3, 1), 0);
        due.is("load: table 0", x.told(5), 16);
        due.is("load: table 1", x.told(6), 0);
        due.is("load: table 2", x.told(7), 1);
        due.is("load: table 3", x.load(3, 0, 1, 1), -1);
        due.is("load: table -1", x.load(-1, 0, 1, 1), -1);
        due.is("load: box 4", x.load(0, 4, 1, 1), -1);
        due.is("load: to box 4", x.load(0, 1, 4, 1), -1);
        due.is("load: box -1", x.load(0, -1, 1, 1), -1);
        due.is("load: to box -1", x.load(0, 1, -1, 1), -1);
        due.is("load: one box", x.load(0, 1, 1, 1), -1);
        due.is("load: UNKNOWN ahead", x.load(0, 1, 1, 51), -1);
        due.is("load: 51", x.load(0, 0, 3, 51), -2);
        due.is("load: -1", x.load(0, 0, 3, -1), -2);
        due.is("load refused", x.load(0, 0, 3, 9), 9);
    }

    private static void leastAndNext() {
        WayWeights x = triangle();
        due.is("least(0, 2): two like ways", x.least(0, 2), 5);
        due.is("least(2, 0)", x.least(2, 0), 5);
        due.is("next(0, 2)", x.next(0, 2), 1 + 4);
        due.is("next(2, 0)", x.next(2, 0), 2 + 4);
        due.is("next(1, 2)", x.next(1, 2), 2);
        due.is("next(1, 1)", x.next(1, 1), 0);
        due.is("least(1, 1)", x.least(1, 1), 0);
        x.weigh(2, 6);
        due.is("least(0, 2): by 1", x.least(0, 2), 5);
        due.is("next(0, 2): by 1", x.next(0, 2), 1);
        x.weigh(2, 4);
        due.is("least(0, 2): straight", x.least(0, 2), 4);
        due.is("next(0, 2): straight", x.next(0, 2), 4);
        due.is("least(3, 0)", x.least(3, 0), -1);
        due.is("least(0, 3)", x.least(0, 3), -1);
        due.is("least(-1, 0)", x.least(-1, 0), -1);
        due.is("least(3, 3)", x.least(3, 3), -1);
        due.is("next(3, 0)", x.next(3, 0), -1);
        due.is("next(0, -1)", x.next(0, -1), -1);
        longestWay();
    }

    private static void longestWay() {
        WayWeights x = new WayWeights();
        x.boxes(6);
        for (int box = 0; box < 5; box++) {
            x.line(box, box + 1, 1, 20);
        }
        due.is("least of five lines", x.least(0, 5), 100);
        due.is("next of five lines", x.next(5, 0), 16);
        for (int i = 0; i < 5; i++) {
            x.line(0, 1, 1, i < 4 ? 20 : 19);
        }
        due.is("next: the lightest of several", x.next(0, 5), 512);
        due.is("least: the lightest of several", x.least(0, 5), 99);
        x.weigh(9, 20);
        due.is("next: all of several", x.next(0, 5), 1 + 992);
    }

    private static void awayIsAsIfItWereNot() {
        WayWeights x = triangle();
        x.mark(0, 1, true);
        due.is("away: least", x.least(0, 1), 8);
        due.is("away: next", x.next(0, 1), 4);
        x.mark(2, 1, true);
        due.is("away: no way", x.least(0, 1), -6);
        due.is("away: no next", x.next(0, 1), 0);
        due.is("away: another way", x.least(2, 1), 3);
        x.mark(0, 1, false);
        due.is("away no more", x.least(0, 2), 5);
    }

    private static void guard() {
        WayWeights x = new WayWeights();
        due.is("guard(true)", x.guard(true), 0);
        due.is("guard(true) again", x.guard(true), 1);
        due.is("guarded", x.told(4), 1);
        due.is("guard(false)", x.guard(false), 1);
        due.is("guard(false) again", x.guard(false), 0);
        due.is("not guarded", x.told(4), 0);
    }

    private static void told() {
        WayWeights x = triangle();
        x.mark(2, 0, true);
        x.mark(0, 1, true);
        x.load(1, 0, 2, 50);
        x.load(1, 2, 1, 49);
        int[] wanted = {3, 3, 4, 1, 0, 0, 99, 0};
        for (int what = 0; what < 8; what++) {
            due.is("told(" + what + ")", x.told(what), wanted[what]);
        }
        due.is("told(8)", x.told(8), -2);
        due.is("told(-1)", x.told(-1), -2);
    }
}
