import java.util.Random;

/** Runs of chance calls, the same ones each time, of which each answer is held against the reference. */
public final class RandomRunsTest {
    private static final int RUNS = Integer.getInteger("runs", 400);
    private static final int FIRST_SEED = Integer.getInteger("seed", 1);
    private static final int CALLS = 512;

    private final Due due;
    private final int run;
    private final Random random;
    private final WayWeights x = new WayWeights();
    private final Reference y = new Reference();
    private int boxes = 4;
    private int lines;
    /** The most that weights are in this run: few values make many like ways. */
    private final int span;
    private int seeks;
    private int calls;

    private RandomRunsTest(Due due, int run) {
        this.due = due;
        this.run = run;
        this.random = new Random(run);
        this.span = new int[] {1, 2, 3, 5, 20}[run % 5];
    }

    public static void main(String[] args) {
        Due due = new Due();
        for (int run = FIRST_SEED; run < FIRST_SEED + RUNS && due.isClean(); run++) {
            new RandomRunsTest(due, run).play();
        }
        due.finish();
    }

    private void play() {
        int made = random.nextInt(3);
        if (made > 0) {
            renew(2 + random.nextInt(5));
            int wanted = made == 1 ? 10 : random.nextInt(11);
            for (int i = 0; i < wanted; i++) {
                join(box(), box(), 1 + random.nextInt(20), weight());
            }
            for (int i = 0; i < 10; i++) {
                load(random.nextInt(3), box(), box(), random.nextInt(51));
            }
        }
        // A seek and what it found are 13 calls.
        while (calls < CALLS - 13 && due.isClean()) {
            step();
        }
    }

    private void check(String call, long got, long want) {
        calls++;
        due.is("run " + run + ": " + call, got, want);
    }

    private int odd(int usual) {
        return switch (random.nextInt(60)) {
            case 0 -> -1;
            case 1 -> usual + 1;
            case 2 -> random.nextInt();
            case 3 -> random.nextBoolean() ? Integer.MIN_VALUE : Integer.MAX_VALUE;
            default -> usual;
        };
    }

    private int box() {
        return odd(random.nextInt(boxes));
    }

    private int anyLine() {
        return odd(lines == 0 ? 0 : random.nextInt(lines));
    }

    private int table() {
        return odd(random.nextInt(3));
    }

    private int two() {
        return odd(random.nextInt(2));
    }

    private int weight() {
        return odd(1 + random.nextInt(random.nextInt(10) == 0 ? 20 : span));
    }

    private void renew(int n) {
        check("boxes(" + n + ")", x.boxes(n), y.boxes(n));
        boxes = y.told(0);
        lines = y.told(1);
    }

    private void join(int a, int b, int room, int weight) {
        check("line(" + a + ", " + b + ", " + room + ", " + weight + ")",
                x.line(a, b, room, weight), y.line(a, b, room, weight));
        lines = y.told(1);
    }

    private void load(int table, int from, int to, int v) {
        check("load(" + table + ", " + from + ", " + to + ", " + v + ")",
                x.load(table, from, to, v), y.load(table, from, to, v));
    }

    private void step() {
        int kind = random.nextInt(100);
        if (kind < 20) {
            tell(kind);
        } else if (kind < 60) {
            askNet(kind % 10);
        } else if (kind < 74) {
            askSeeking(kind % 7);
        } else if (kind < 88) {
            askNews(kind % 5);
        } else {
            askGrowth(kind % 4);
        }
    }

    private void tell(int kind) {
        if (kind < 2 && random.nextInt(8) == 0) {
            renew(odd(2 + random.nextInt(5)));
        } else if (kind < 6) {
            join(box(), box(), odd(1 + random.nextInt(random.nextBoolean() ? 10 : 100)), weight());
        } else if (kind < 9) {
            int line = anyLine();
            int weight = weight();
            check("weigh(" + line + ", " + weight + ")", x.weigh(line, weight), y.weigh(line, weight));
        } else if (kind < 12) {
            int line = anyLine();
            int what = two();
            boolean is = random.nextInt(3) == 0;
            check("mark(" + line + ", " + what + ", " + is + ")", x.mark(line, what, is), y.mark(line, what, is));
        } else if (kind < 18) {
            load(table(), box(), box(), odd(random.nextInt(51)));
        } else if (kind < 19) {
            boolean is = random.nextBoolean();
            check("guard(" + is + ")", x.guard(is), y.guard(is));
        } else {
            check("take()", x.take(), y.take());
        }
    }

    private void askNet(int kind) {
        int table = table();
        int line = anyLine();
        int from = box();
        int to = box();
        int way = two();
        int part = two();
        int what = odd(random.nextInt(4));
        int about = odd(random.nextInt(6));
        switch (kind) {
            case 0 -> check("about(" + line + ", " + about + ")", x.about(line, about), y.about(line, about));
            case 1 -> check("least(" + from + ", " + to + ")", x.least(from, to), y.least(from, to));
            case 2 -> check("next(" + from + ", " + to + ")", x.next(from, to), y.next(from, to));
            case 3, 4 -> check("share(" + from + ", " + to + ", " + line + ", " + way + ", " + part + ")",
                    x.share(from, to, line, way, part), y.share(from, to, line, way, part));
            case 5 -> check("on(" + table + ", " + line + ", " + way + ", " + part + ")",
                    x.on(table, line, way, part), y.on(table, line, way, part));
            case 6 -> check("worst(" + table + ", " + what + ")", x.worst(table, what), y.worst(table, what));
            case 7 -> check("all(" + what + ")", x.all(what), y.all(what));
            case 8 -> check("parted(" + table + ", " + line + ")", x.parted(table, line), y.parted(table, line));
            default -> check("who(" + table + ", " + line + ", " + way + ")",
                    x.who(table, line, way), y.who(table, line, way));
        }
    }

    private void askSeeking(int kind) {
        int line = anyLine();
        int part = two();
        if (kind == 0 && seeks < 12) {
            seeks++;
            int w = odd(1 + random.nextInt(2));
            int k = odd(random.nextInt(11));
            check("seek(" + w + ", " + k + ")", x.seek(w, k), y.seek(w, k));
            for (int i = -1; i <= lines; i++) {
                check("sought(" + i + ")", x.sought(i), y.sought(i));
            }
        } else if (kind < 4) {
            check("sought(" + line + ")", x.sought(line), y.sought(line));
        } else {
            check("better(" + part + ")", x.better(part), y.better(part));
        }
    }

    private void askNews(int kind) {
        int line = anyLine();
        int weight = odd(1 + random.nextInt(20));
        int i = odd(random.nextInt(4));
        if (kind < 3) {
            check("ring(" + line + ", " + weight + ")", x.ring(line, weight), y.ring(line, weight));
        } else if (kind == 3) {
            check("between(" + line + ", " + weight + ")", x.between(line, weight), y.between(line, weight));
        } else {
            check("value(" + line + ", " + weight + ", " + i + ")",
                    x.value(line, weight, i), y.value(line, weight, i));
        }
    }

    private void askGrowth(int kind) {
        int table = table();
        int part = two();
        int g = odd(1 + random.nextInt(random.nextBoolean() ? 5 : 100));
        int what = odd(random.nextInt(8));
        if (kind == 0) {
            check("grow(" + table + ", " + part + ")", x.grow(table, part), y.grow(table, part));
        } else if (kind == 1) {
            check("told(" + what + ")", x.told(what), y.told(what));
        } else {
            check("year(" + table + ", " + g + ")", x.year(table, g), y.year(table, g));
        }
    }
}
