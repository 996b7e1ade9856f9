/** Promises 24 and 25, sentence by sentence: the edges of growth. */
public final class EdgeGrowthTest {
    private static final long LOST = -1000000000000000000L;
    private static final int LEAST = Integer.MIN_VALUE;
    private static final int GREATEST = Integer.MAX_VALUE;
    private static final Due due = new Due();

    public static void main(String[] args) {
        growthOfNothing();
        growthOfOne();
        growthMostAndLeast();
        growthByTheFullestLine();
        growthOfEachTable();
        growthOutside();
        growthIsNotGuarded();
        yearOfNothing();
        yearAsTheyAre();
        fullIsNotAbove();
        partsOfALetterAreAbove();
        yearNinetyNineIsTheLast();
        hundredthsOneAndHundred();
        hundredthsOutside();
        loadsAreCutUp();
        eachLoadIsCutUp();
        loadsOfNoneStay();
        lostLoadsGrowForNothing();
        greatLoads();
        yearOfEachTable();
        yearIsNotGuarded();
        askedLoadsStay();
        due.finish();
    }

    private static WayWeights sideBySide(int lines, int room, int load) {
        WayWeights x = new WayWeights();
        x.boxes(2);
        for (int line = 0; line < lines; line++) {
            x.line(0, 1, room, 1);
        }
        x.load(0, 0, 1, load);
        return x;
    }

    private static void isGrowth(String what, WayWeights x, int table, long upper, long lower) {
        due.is(what + ", upper", x.grow(table, 0), upper);
        due.is(what + ", lower", x.grow(table, 1), lower);
    }

    private static void growthOfNothing() {
        isGrowth("no lines", new WayWeights(), 0, LOST - 6, LOST - 6);
        isGrowth("no loads", sideBySide(10, 1, 0), 0, LOST - 6, LOST - 6);
        WayWeights x = sideBySide(1, 1, 50);
        x.mark(0, 1, true);
        isGrowth("all LOST", x, 0, LOST - 6, LOST - 6);
        isGrowth("another table", x, 2, LOST - 6, LOST - 6);
    }

    private static void growthOfOne() {
        isGrowth("just full", sideBySide(1, 50, 50), 0, 1, 1);
        isGrowth("just full, in parts", sideBySide(3, 10, 30), 0, 1, 1);
        isGrowth("a letter more", sideBySide(1, 49, 50), 0, 49, 50);
        isGrowth("a letter less", sideBySide(1, 50, 49), 0, 50, 49);
    }

    private static void growthMostAndLeast() {
        isGrowth("most", sideBySide(10, 100, 1), 0, 1000, 1);
        WayWeights x = new WayWeights();
        x.boxes(6);
        for (int box = 0; box < 5; box++) {
            x.line(box, box + 1, 1, 1);
        }
        for (int from = 0; from < 6; from++) {
            for (int to = 0; to < 6; to++) {
                x.load(0, from, to, 50);
            }
        }
        isGrowth("least", x, 0, 1, 450);
        due.is("least: the year", x.year(0, 1), 0);
    }

    private static void growthByTheFullestLine() {
        WayWeights x = sideBySide(1, 100, 50);
        isGrowth("one line", x, 0, 2, 1);
        x.line(1, 0, 20, 1);
        isGrowth("the narrower of two", x, 0, 4, 5);
        x.load(0, 1, 0, 50);
        x.mark(1, 1, true);
        isGrowth("one way and back", x, 0, 2, 1);
    }

    private static void growthOfEachTable() {
        WayWeights x = sideBySide(1, 100, 50);
        x.load(1, 0, 1, 25);
        x.load(2, 1, 0, 20);
        isGrowth("table 0", x, 0, 2, 1);
        isGrowth("table 1", x, 1, 4, 1);
        isGrowth("table 2", x, 2, 5, 1);
    }

    private static void growthOutside() {
        WayWeights x = sideBySide(1, 100, 50);
        for (int table : new int[] {-1, 3, LEAST, GREATEST}) {
            isGrowth("table " + table, x, table, LOST - 1, LOST - 1);
        }
        for (int part : new int[] {-1, 2, LEAST, GREATEST}) {
            due.is("part " + part, x.grow(0, part), LOST - 2);
        }
    }

    private static void growthIsNotGuarded() {
        WayWeights x = sideBySide(2, 50, 50);
        x.guard(true);
        isGrowth("guarded", x, 0, 2, 1);
    }

    private static void yearOfNothing() {
        due.is("no lines", new WayWeights().year(0, 100), -6);
        due.is("no loads", sideBySide(10, 1, 0).year(0, 100), -6);
        WayWeights x = sideBySide(1, 1, 50);
        x.mark(0, 1, true);
        due.is("all AWAY", x.year(0, 100), -6);
    }

    private static void yearAsTheyAre() {
        due.is("too full already", sideBySide(1, 49, 50).year(0, 1), 0);
        due.is("too full already, by 100", sideBySide(1, 49, 50).year(0, 100), 0);
    }

    private static void fullIsNotAbove() {
        due.is("full", sideBySide(1, 50, 50).year(0, 1), 1);
        due.is("full in parts", sideBySide(3, 10, 30).year(0, 1), 1);
        // 25 and 50 fill it, 100 is above.
        due.is("full in year 1", sideBySide(1, 50, 25).year(0, 100), 2);
    }

    private static void partsOfALetterAreAbove() {
        // 31 by three is a third above 10.
        due.is("a third above", sideBySide(3, 10, 31).year(0, 1), 0);
        due.is("a tenth above", sideBySide(10, 4, 41).year(0, 1), 0);
        due.is("a tenth below", sideBySide(10, 4, 39).year(0, 1), 2);
    }

    private static void yearNinetyNineIsTheLast() {
        // By 1 hundredth, cut up, a load of 1 is 100 in year 99.
        due.is("above in year 99", sideBySide(1, 99, 1).year(0, 1), 99);
        due.is("above in year 100", sideBySide(1, 100, 1).year(0, 1), -6);
        due.is("above in year 98", sideBySide(1, 98, 1).year(0, 1), 98);
        due.is("above in year 1", sideBySide(1, 1, 1).year(0, 1), 1);
    }

    private static void hundredthsOneAndHundred() {
        WayWeights x = sideBySide(1, 100, 50);
        // 50, 51, .. 99, 100, 101.
        due.is("by 1", x.year(0, 1), 51);
        due.is("by 100", x.year(0, 100), 2);
        due.is("by 99", x.year(0, 99), 2);
        x.load(0, 0, 1, 26);
        // 26, 52, 104; by 99: 26, 52, 104.
        due.is("26 by 99", x.year(0, 99), 2);
        due.is("26 by 50: 39, 59, 89, 134", x.year(0, 50), 4);
    }

    private static void hundredthsOutside() {
        WayWeights x = sideBySide(1, 49, 50);
        for (int g : new int[] {0, 101, -1, -100, LEAST, LEAST + 1, GREATEST}) {
            due.is("year(0, " + g + ")", x.year(0, g), -2);
        }
        for (int table : new int[] {-1, 3, LEAST, GREATEST}) {
            due.is("year(" + table + ", 1)", x.year(table, 1), -1);
        }
    }

    private static void loadsAreCutUp() {
        // 50 by 2 hundredths is 51, and 51 by 2 hundredths 52.02, which is 53.
        due.is("51", sideBySide(1, 50, 50).year(0, 2), 1);
        due.is("53 is above 52", sideBySide(1, 52, 50).year(0, 2), 2);
        due.is("53 is not above 53", sideBySide(1, 53, 50).year(0, 2), 3);
        // A whole number is not cut: 20 by 5 hundredths is 21.
        due.is("21 is not above 21", sideBySide(1, 21, 20).year(0, 5), 2);
    }

    /** Two loads of 1 by 1 hundredth are 4 together in a year: each is cut by itself. */
    private static void eachLoadIsCutUp() {
        WayWeights x = new WayWeights();
        x.boxes(3);
        x.line(0, 1, 3, 1);
        x.line(1, 2, 100, 1);
        x.load(0, 0, 1, 1);
        x.load(0, 0, 2, 1);
        due.is("4 is above 3", x.year(0, 1), 1);
    }

    private static void loadsOfNoneStay() {
        WayWeights x = new WayWeights();
        x.line(0, 1, 1, 1);
        x.line(2, 3, 100, 1);
        x.load(0, 2, 3, 1);
        due.is("a load of 0 is 0 each year", x.year(0, 1), -6);
    }

    private static void lostLoadsGrowForNothing() {
        WayWeights x = new WayWeights();
        x.line(0, 1, 100, 1);
        for (int to = 0; to < 3; to++) {
            x.load(0, 3, to, 50);
            x.load(0, to, 3, 50);
        }
        due.is("LOST loads", x.year(0, 100), -6);
        x.load(0, 0, 1, 1);
        due.is("LOST loads beside others: 1, 2, 4 .. 128", x.year(0, 100), 7);
    }

    /** The way that takes longest with doubling: a load of 1 by ten lines of 100 is above in year 10, with 1024. */
    private static void greatLoads() {
        due.is("1024 by ten lines of 100", sideBySide(10, 100, 1).year(0, 100), 10);
        due.is("100 by ten lines of 100", sideBySide(10, 100, 1).year(0, 1), -6);
        due.is("100 by ten lines of 9", sideBySide(10, 9, 1).year(0, 1), 90);
    }

    private static void yearOfEachTable() {
        WayWeights x = sideBySide(1, 10, 10);
        x.load(1, 0, 1, 9);
        x.load(2, 1, 0, 8);
        due.is("table 0", x.year(0, 1), 1);
        due.is("table 1", x.year(1, 1), 2);
        due.is("table 2", x.year(2, 1), 3);
    }

    private static void yearIsNotGuarded() {
        WayWeights x = sideBySide(2, 50, 50);
        x.guard(true);
        due.is("guarded", x.year(0, 100), 2);
    }

    private static void askedLoadsStay() {
        WayWeights x = sideBySide(1, 100, 50);
        x.year(0, 100);
        x.grow(0, 0);
        due.is("loads together", x.told(5), 50);
        due.is("the load", x.load(0, 0, 1, 50), 50);
        due.is("the year again", x.year(0, 100), 2);
    }
}
