/** Promises 10 to 12 and 14 to 16, sentence by sentence: the edges of what lines bear. */
public final class EdgeBearingTest {
    private static final long LOST = -1000000000000000000L;
    private static final int LEAST = Integer.MIN_VALUE;
    private static final int GREATEST = Integer.MAX_VALUE;
    private static final Due due = new Due();

    public static void main(String[] args) {
        shareOfTen();
        shareOfOneBox();
        shareWithoutWay();
        shareOfALineAway();
        shareOfAll();
        onWithoutLoads();
        onOfLostLoads();
        onOfTheGreatestLoads();
        onInLowestTerms();
        onByEachTable();
        worstOfNothing();
        worstIsTheFirstLine();
        worstIsTheFirstWay();
        worstByTheLeastAndMostRoom();
        worstOutside();
        allOfNothing();
        allIsTheFirstTable();
        allIsAsItIsFirst();
        allIsTheFirstLineAway();
        allWithTheLastOfTenAway();
        allOfALoadOfOne();
        allOfATableAheadOfTheNext();
        allWithTheOnlyLineAway();
        allWithoutGuard();
        allWithLinesAwayAlready();
        allOutside();
        partedOfNothing();
        partedOfAll();
        partedByALineAway();
        partedUnknown();
        whoIsNone();
        whoIsTheFirstByFrom();
        whoIsTheFirstByTo();
        whoByParts();
        whoIsTheLastPair();
        refusedFractions();
        due.finish();
    }

    private static WayWeights sideBySide(int lines, int room) {
        WayWeights x = new WayWeights();
        x.boxes(2);
        for (int line = 0; line < lines; line++) {
            x.line(0, 1, room, 1);
        }
        return x;
    }

    /** Six BOXES in a row, with the greatest LOAD from each to each. */
    private static WayWeights fullRow(int room) {
        WayWeights x = new WayWeights();
        x.boxes(6);
        for (int box = 0; box < 5; box++) {
            x.line(box, box + 1, room, 1);
        }
        for (int from = 0; from < 6; from++) {
            for (int to = 0; to < 6; to++) {
                x.load(0, from, to, 50);
            }
        }
        return x;
    }

    private static void isShare(String what, WayWeights x, int[] at, long upper, long lower) {
        due.is(what + ", upper", x.share(at[0], at[1], at[2], at[3], 0), upper);
        due.is(what + ", lower", x.share(at[0], at[1], at[2], at[3], 1), lower);
    }

    private static void isOn(String what, WayWeights x, int[] at, long upper, long lower) {
        due.is(what + ", upper", x.on(at[0], at[1], at[2], 0), upper);
        due.is(what + ", lower", x.on(at[0], at[1], at[2], 1), lower);
    }

    private static void isWorst(String what, WayWeights x, int table, long... wanted) {
        for (int i = 0; i < 4; i++) {
            due.is(what + ": worst(" + table + ", " + i + ")", x.worst(table, i), wanted[i]);
        }
    }

    private static void isAll(String what, WayWeights x, long... wanted) {
        for (int i = 0; i < 4; i++) {
            due.is(what + ": all(" + i + ")", x.all(i), wanted[i]);
        }
    }

    private static void shareOfTen() {
        WayWeights x = sideBySide(10, 1);
        for (int line = 0; line < 10; line++) {
            isShare("one of ten: " + line, x, new int[] {0, 1, line, 0}, 1, 10);
            isShare("one of ten, the other way: " + line, x, new int[] {0, 1, line, 1}, 0, 1);
            isShare("one of ten, back: " + line, x, new int[] {1, 0, line, 1}, 1, 10);
        }
    }

    private static void shareOfOneBox() {
        WayWeights x = sideBySide(2, 1);
        for (int way = 0; way < 2; way++) {
            isShare("box 0 to itself, way " + way, x, new int[] {0, 0, 0, way}, 0, 1);
            isShare("box 1 to itself, way " + way, x, new int[] {1, 1, 1, way}, 0, 1);
        }
    }

    private static void shareWithoutWay() {
        WayWeights x = new WayWeights();
        x.line(0, 1, 1, 1);
        x.line(2, 3, 1, 1);
        isShare("no way, at the sender's", x, new int[] {0, 3, 0, 0}, 0, 1);
        isShare("no way, at the target's", x, new int[] {0, 3, 1, 0}, 0, 1);
    }

    private static void shareOfALineAway() {
        WayWeights x = sideBySide(3, 1);
        x.mark(1, 1, true);
        isShare("AWAY", x, new int[] {0, 1, 1, 0}, 0, 1);
        isShare("the first beside it", x, new int[] {0, 1, 0, 0}, 1, 2);
        isShare("the last beside it", x, new int[] {0, 1, 2, 0}, 1, 2);
        x.mark(0, 1, true);
        isShare("the only one left", x, new int[] {0, 1, 2, 0}, 1, 1);
        x.mark(2, 1, true);
        isShare("none is left", x, new int[] {0, 1, 2, 0}, 0, 1);
    }

    private static void shareOfAll() {
        WayWeights x = fullRow(1);
        for (int line = 0; line < 5; line++) {
            isShare("the only way over " + line, x, new int[] {0, 5, line, 0}, 1, 1);
            isShare("the only way back over " + line, x, new int[] {5, 0, line, 1}, 1, 1);
            isShare("against the only way over " + line, x, new int[] {5, 0, line, 0}, 0, 1);
        }
    }

    private static void onWithoutLoads() {
        WayWeights x = sideBySide(10, 1);
        for (int table = 0; table < 3; table++) {
            isOn("no loads, table " + table, x, new int[] {table, 9, 0}, 0, 1);
        }
        x.load(1, 0, 1, 50);
        x.load(1, 0, 1, 0);
        isOn("no loads any more", x, new int[] {1, 9, 0}, 0, 1);
    }

    private static void onOfLostLoads() {
        WayWeights x = new WayWeights();
        x.line(0, 1, 1, 1);
        x.line(2, 3, 1, 1);
        x.load(0, 0, 3, 50);
        isOn("LOST, at the sender's", x, new int[] {0, 0, 0}, 0, 1);
        isOn("LOST, at the target's", x, new int[] {0, 1, 0}, 0, 1);
        x.load(0, 0, 1, 1);
        isOn("others are borne", x, new int[] {0, 0, 0}, 1, 1);
        x.mark(0, 1, true);
        isOn("all are LOST", x, new int[] {0, 0, 0}, 0, 1);
    }

    private static void onOfTheGreatestLoads() {
        WayWeights x = fullRow(1);
        long[] wanted = {250, 400, 450, 400, 250};
        for (int line = 0; line < 5; line++) {
            isOn("all loads on " + line, x, new int[] {0, line, 0}, wanted[line], 1);
            isOn("all loads on " + line + ", back", x, new int[] {0, line, 1}, wanted[line], 1);
        }
    }

    private static void onInLowestTerms() {
        WayWeights x = sideBySide(10, 1);
        long[][] wanted = {{1, 1, 10}, {2, 1, 5}, {5, 1, 2}, {10, 1, 1}, {49, 49, 10}, {50, 5, 1}};
        for (long[] at : wanted) {
            x.load(2, 0, 1, (int) at[0]);
            isOn("a tenth of " + at[0], x, new int[] {2, 9, 0}, at[1], at[2]);
        }
    }

    private static void onByEachTable() {
        WayWeights x = sideBySide(1, 1);
        x.load(0, 0, 1, 1);
        x.load(2, 0, 1, 50);
        isOn("table 0", x, new int[] {0, 0, 0}, 1, 1);
        isOn("table 1", x, new int[] {1, 0, 0}, 0, 1);
        isOn("table 2", x, new int[] {2, 0, 0}, 50, 1);
    }

    private static void worstOfNothing() {
        isWorst("no lines", new WayWeights(), 0, 0, 1, -6, -6);
        WayWeights lost = new WayWeights();
        lost.load(1, 0, 1, 50);
        isWorst("no lines, LOST", lost, 1, 0, 1, -6, -6);
        WayWeights x = sideBySide(10, 1);
        for (int table = 0; table < 3; table++) {
            isWorst("no loads", x, table, 0, 1, -6, -6);
        }
        x.load(2, 0, 1, 50);
        for (int line = 0; line < 10; line++) {
            x.mark(line, 1, true);
        }
        isWorst("all AWAY", x, 2, 0, 1, -6, -6);
    }

    private static void worstIsTheFirstLine() {
        WayWeights x = sideBySide(10, 10);
        x.load(0, 0, 1, 50);
        isWorst("ten alike", x, 0, 1, 2, 0, 0);
        x.mark(0, 1, true);
        isWorst("nine alike", x, 0, 5, 9, 1, 0);
        WayWeights last = sideBySide(9, 10);
        last.line(0, 1, 9, 1);
        last.load(0, 0, 1, 50);
        isWorst("the last has least room", last, 0, 5, 9, 9, 0);
    }

    private static void worstIsTheFirstWay() {
        WayWeights x = sideBySide(1, 10);
        x.load(0, 1, 0, 5);
        isWorst("the second way alone", x, 0, 1, 2, 0, 1);
        x.load(0, 0, 1, 5);
        isWorst("both ways alike", x, 0, 1, 2, 0, 0);
        x.load(0, 1, 0, 6);
        isWorst("the second way fuller", x, 0, 3, 5, 0, 1);
        // A line told from 1 to 0: its first way is from 1 to 0, and its second ahead of the next line's first.
        WayWeights turned = new WayWeights();
        turned.line(1, 0, 10, 1);
        turned.line(2, 3, 10, 1);
        turned.load(0, 0, 1, 5);
        turned.load(0, 2, 3, 5);
        isWorst("the second way ahead of the next line", turned, 0, 1, 2, 0, 1);
    }

    private static void worstByTheLeastAndMostRoom() {
        isWorst("room 1", fullRow(1), 0, 450, 1, 2, 0);
        isWorst("room 100", fullRow(100), 0, 9, 2, 2, 0);
        WayWeights x = sideBySide(10, 100);
        x.load(0, 0, 1, 1);
        isWorst("the least that can be", x, 0, 1, 1000, 0, 0);
    }

    private static void worstOutside() {
        WayWeights x = fullRow(1);
        for (int what : new int[] {-1, 4, LEAST, GREATEST}) {
            due.is("worst(0, " + what + ")", x.worst(0, what), LOST - 2);
        }
        for (int table : new int[] {-1, 3, LEAST, GREATEST}) {
            due.is("worst(" + table + ", 0)", x.worst(table, 0), LOST - 1);
        }
    }

    private static void allOfNothing() {
        WayWeights x = new WayWeights();
        isAll("no lines", x, 0, 1, 0, -6);
        x.guard(true);
        isAll("no lines, guarded", x, 0, 1, 0, -6);
        x.load(2, 0, 1, 50);
        isAll("no lines, LOST", x, 0, 1, 0, -6);
        WayWeights y = sideBySide(10, 1);
        isAll("no loads", y, 0, 1, 0, -6);
        y.guard(true);
        isAll("no loads, guarded", y, 0, 1, 0, -6);
        y.load(2, 0, 1, 50);
        for (int line = 0; line < 10; line++) {
            y.mark(line, 1, true);
        }
        isAll("all AWAY, guarded", y, 0, 1, 0, -6);
    }

    private static void allIsTheFirstTable() {
        WayWeights x = sideBySide(1, 10);
        x.load(2, 0, 1, 5);
        isAll("table 2 alone", x, 1, 2, 2, -6);
        x.load(1, 1, 0, 5);
        isAll("table 1 likewise", x, 1, 2, 1, -6);
        x.load(0, 0, 1, 5);
        isAll("table 0 likewise", x, 1, 2, 0, -6);
        x.load(2, 0, 1, 6);
        isAll("table 2 is fuller", x, 3, 5, 2, -6);
    }

    private static void allIsAsItIsFirst() {
        WayWeights x = sideBySide(1, 10);
        x.line(0, 1, 10, 2);
        x.load(0, 0, 1, 5);
        x.guard(true);
        // With either line away the other one bears all: no fuller than as it is.
        isAll("as it is", x, 1, 2, 0, -6);
    }

    private static void allIsTheFirstLineAway() {
        WayWeights x = sideBySide(10, 10);
        x.load(0, 0, 1, 45);
        x.guard(true);
        isAll("ten alike, guarded", x, 1, 2, 0, 0);
        x.mark(0, 1, true);
        isAll("nine alike, guarded", x, 9, 16, 0, 1);
        WayWeights last = new WayWeights();
        last.boxes(3);
        last.line(0, 1, 10, 2);
        last.line(0, 2, 10, 1);
        last.line(2, 1, 10, 1);
        last.load(0, 0, 1, 10);
        last.load(0, 2, 1, 2);
        last.guard(true);
        // Way 2, 1 bears 5 and 2; without line 0 it bears 12, without line 2 line 0 does.
        isAll("lines 0 and 2 alike", last, 6, 5, 0, 0);
        last.load(0, 1, 0, 13);
        last.load(0, 1, 2, 2);
        isAll("the other way, lines 0 and 2", last, 3, 2, 0, 0);
    }

    private static void allWithTheLastOfTenAway() {
        WayWeights x = new WayWeights();
        x.boxes(3);
        for (int i = 0; i < 8; i++) {
            x.line(1, 2, 100, 1);
        }
        x.line(0, 1, 1, 2);
        x.line(0, 1, 10, 1);
        x.load(2, 0, 1, 10);
        x.guard(true);
        isAll("the last of ten", x, 10, 1, 2, 9);
        x.weigh(8, 1);
        x.weigh(9, 2);
        isAll("the last but one is gone by", x, 10, 1, 2, -6);
    }

    private static void allOfALoadOfOne() {
        WayWeights x = sideBySide(2, 100);
        x.load(2, 1, 0, 1);
        isAll("a load of 1", x, 1, 200, 2, -6);
        x.guard(true);
        isAll("a load of 1, guarded", x, 1, 100, 2, 0);
    }

    private static void allOfATableAheadOfTheNext() {
        WayWeights x = sideBySide(2, 10);
        x.load(0, 0, 1, 10);
        x.load(1, 0, 1, 20);
        x.guard(true);
        isAll("table 1 with a line away", x, 2, 1, 1, 0);
        x.load(0, 0, 1, 20);
        isAll("table 0 likewise", x, 2, 1, 0, 0);
        WayWeights y = new WayWeights();
        y.line(2, 3, 10, 1);
        y.line(0, 1, 10, 1);
        y.line(0, 1, 10, 1);
        y.load(0, 0, 1, 10);
        y.load(1, 2, 3, 10);
        y.guard(true);
        isAll("table 0 with line 1 away ahead of table 1 as it is", y, 1, 1, 0, 1);
    }

    private static void allWithTheOnlyLineAway() {
        WayWeights x = sideBySide(1, 10);
        x.load(0, 0, 1, 5);
        x.guard(true);
        isAll("what is LOST is on no line", x, 1, 2, 0, -6);
    }

    private static void allWithoutGuard() {
        WayWeights x = sideBySide(2, 10);
        x.load(0, 0, 1, 10);
        isAll("not guarded", x, 1, 2, 0, -6);
        x.guard(true);
        isAll("guarded", x, 1, 1, 0, 0);
        x.guard(false);
        isAll("no more", x, 1, 2, 0, -6);
    }

    private static void allWithLinesAwayAlready() {
        WayWeights x = sideBySide(3, 10);
        x.load(0, 0, 1, 10);
        x.guard(true);
        x.mark(0, 1, true);
        isAll("one AWAY, one more", x, 1, 1, 0, 1);
        x.mark(1, 1, true);
        isAll("two AWAY: as it is", x, 1, 1, 0, -6);
    }

    private static void allOutside() {
        WayWeights x = fullRow(1);
        for (int what : new int[] {-1, 4, LEAST, GREATEST}) {
            due.is("all(" + what + ")", x.all(what), LOST - 2);
        }
    }

    private static void partedOfNothing() {
        WayWeights empty = new WayWeights();
        due.is("no lines, no loads", empty.parted(0, -1), 0);
        WayWeights x = fullRow(1);
        due.is("a way for each", x.parted(0, -1), 0);
        due.is("a table without loads", x.parted(1, 2), 0);
        due.is("the last table without loads", x.parted(2, -1), 0);
    }

    private static void partedOfAll() {
        WayWeights x = fullRow(1);
        for (int line = 0; line < 5; line++) {
            x.mark(line, 1, true);
        }
        due.is("all AWAY", x.parted(0, -1), 1500);
        due.is("all AWAY, one more", x.parted(0, 4), 1500);
        WayWeights empty = new WayWeights();
        empty.load(2, 0, 3, 50);
        empty.load(2, 3, 0, 49);
        due.is("no lines", empty.parted(2, -1), 99);
        due.is("no lines, another table", empty.parted(1, -1), 0);
    }

    private static void partedByALineAway() {
        WayWeights x = fullRow(1);
        int[] wanted = {500, 800, 900, 800, 500};
        for (int line = 0; line < 5; line++) {
            due.is("parted by " + line, x.parted(0, line), wanted[line]);
        }
        x.mark(2, 1, true);
        due.is("parted already", x.parted(0, -1), 900);
        due.is("a line that is AWAY already", x.parted(0, 2), 900);
        due.is("in three", x.parted(0, 0), 1100);
        due.is("with none more", x.parted(0, -1), 900);
        WayWeights ten = sideBySide(10, 1);
        ten.load(0, 0, 1, 50);
        due.is("one of ten", ten.parted(0, 9), 0);
    }

    private static void partedUnknown() {
        WayWeights x = sideBySide(10, 1);
        x.load(0, 0, 1, 50);
        for (int line : new int[] {-2, 10, 31, 32, LEAST, GREATEST}) {
            due.is("parted(0, " + line + ")", x.parted(0, line), -1);
        }
        for (int table : new int[] {-1, 3, LEAST, GREATEST}) {
            due.is("parted(" + table + ", -1)", x.parted(table, -1), -1);
            due.is("parted(" + table + ", 0)", x.parted(table, 0), -1);
        }
    }

    private static void whoIsNone() {
        WayWeights x = sideBySide(2, 1);
        due.is("no loads", x.who(0, 0, 0), -6);
        x.load(0, 0, 1, 50);
        due.is("the other way", x.who(0, 0, 1), -6);
        due.is("another table", x.who(1, 0, 0), -6);
        x.weigh(1, 2);
        due.is("a line that is not gone by", x.who(0, 1, 0), -6);
        x.mark(0, 1, true);
        due.is("a line that is AWAY", x.who(0, 0, 0), -6);
        due.is("then the other is gone by", x.who(0, 1, 0), 1);
        x.mark(1, 1, true);
        due.is("all AWAY", x.who(0, 1, 0), -6);
    }

    private static WayWeights star() {
        WayWeights x = new WayWeights();
        x.boxes(6);
        x.line(2, 3, 10, 1);
        x.line(0, 2, 10, 1);
        x.line(1, 2, 10, 1);
        x.line(3, 4, 10, 1);
        x.line(3, 5, 10, 1);
        return x;
    }

    private static void whoIsTheFirstByFrom() {
        WayWeights x = star();
        x.load(0, 2, 3, 7);
        due.is("one sender", x.who(0, 0, 0), 23);
        x.load(0, 1, 5, 7);
        due.is("two senders alike", x.who(0, 0, 0), 15);
        x.load(0, 0, 5, 7);
        due.is("three senders alike", x.who(0, 0, 0), 5);
        x.load(0, 2, 3, 8);
        due.is("the last sends more", x.who(0, 0, 0), 23);
    }

    private static void whoIsTheFirstByTo() {
        WayWeights x = star();
        x.load(0, 1, 5, 7);
        x.load(0, 1, 4, 7);
        due.is("two targets alike", x.who(0, 0, 0), 14);
        x.load(0, 1, 3, 7);
        due.is("three targets alike", x.who(0, 0, 0), 13);
        x.load(0, 1, 5, 8);
        due.is("the last is sent more", x.who(0, 0, 0), 15);
    }

    private static void whoByParts() {
        WayWeights x = new WayWeights();
        x.line(0, 2, 10, 1);
        x.line(0, 1, 10, 1);
        x.line(1, 2, 10, 1);
        x.line(0, 1, 10, 1);
        x.line(3, 1, 10, 1);
        x.line(3, 0, 10, 1);
        // From 3 to 2 half goes by 1 and half by 0; from 1 to 2 all goes straight.
        x.load(0, 1, 2, 10);
        x.load(0, 3, 2, 20);
        due.is("half of 20 is as much as 10", x.who(0, 2, 0), 12);
        x.load(0, 3, 2, 21);
        due.is("half of 21 is more than 10", x.who(0, 2, 0), 32);
        x.load(0, 3, 2, 19);
        due.is("half of 19 is less than 10", x.who(0, 2, 0), 12);
        due.is("the other half", x.who(0, 0, 0), 32);
    }

    private static void whoIsTheLastPair() {
        WayWeights x = new WayWeights();
        x.boxes(6);
        x.line(5, 4, 1, 1);
        x.load(2, 5, 4, 1);
        due.is("the last pair", x.who(2, 0, 0), 54);
        x.load(2, 4, 5, 1);
        due.is("the last pair back", x.who(2, 0, 1), 45);
        WayWeights first = sideBySide(1, 1);
        first.load(0, 0, 1, 1);
        first.load(0, 1, 0, 1);
        due.is("the first pair", first.who(0, 0, 0), 1);
        due.is("the first pair back", first.who(0, 0, 1), 10);
    }

    /** Refused fractions are told as LOST and the refusal, for either part. */
    private static void refusedFractions() {
        WayWeights x = fullRow(1);
        for (int part = 0; part < 2; part++) {
            due.is("share of line 5", x.share(0, 1, 5, 0, part), LOST - 1);
            due.is("share one way 2", x.share(0, 1, 0, 2, part), LOST - 2);
            due.is("on of table 3", x.on(3, 0, 0, part), LOST - 1);
            due.is("on one way 2", x.on(0, 0, 2, part), LOST - 2);
            due.is("worst of table 3", x.worst(3, part), LOST - 1);
            due.is("better without a find", x.better(part), LOST - 3);
            due.is("grow of table 3", x.grow(3, part), LOST - 1);
            due.is("grow of nothing", x.grow(1, part), LOST - 6);
        }
    }
}
