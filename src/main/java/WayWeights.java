import java.util.Arrays;

/** Weights of the ways of a small net: see README.md, and the document for what each call promises. */
public final class WayWeights {
    public static final int UNKNOWN = -1, OUTSIDE = -2, STATE = -3, FULL = -4, NO = -5, NONE = -6;
    public static final long LOST = -1000000000000000000L;

    private static final int FEWEST_BOXES = 2;
    private static final int MOST_BOXES = 6;
    private static final int BOXES_AT_FIRST = 4;
    private static final int PAIRS = MOST_BOXES * MOST_BOXES;
    private static final int MOST_LINES = 10;
    private static final int MOST_ROOM = 100;
    private static final int MOST_WEIGHT = 20;
    private static final int TABLES = 3;
    private static final int MOST_LOAD = 50;
    private static final int MOST_SPAN = 2;
    private static final int MOST_CHANGES = 10;
    private static final int MOST_SOUGHT = 5;
    private static final int MOST_GROWN = 1000000;
    private static final int YEARS = 100;
    private static final int NOBODY = -1;
    private static final int NO_LINE = -1;
    /** Above every sum of weights: five lines of weight 20 are the longest way. */
    private static final int NO_WAY = 1000;
    /**
     * What one letter is counted as, so that every part of it is a whole number. For one target each line
     * is NEXT of one box at most, so the parts at all boxes are ten at most together, and their product
     * divides 2^5 * 3^3 * 5^2 * 7.
     */
    private static final long WHOLE = 151200;

    private final Net net = new Net();
    private final int[][] loads = new int[TABLES][PAIRS];
    private final Routes routes = new Routes();
    private final Flow flow = new Flow();
    private final Peak peak = new Peak();
    private final Survey survey = new Survey(net, loads, routes, flow);
    private final Seeker seeker = new Seeker(net, survey);
    private final News news = new News(net, routes);
    private final int[] grown = new int[PAIRS];

    public WayWeights() {
    }

    // ---- 1 the net

    public int boxes(int n) {
        if (n < FEWEST_BOXES || n > MOST_BOXES) {
            return OUTSIDE;
        }
        int before = net.boxes;
        net.renew(n);
        for (int table = 0; table < TABLES; table++) {
            Arrays.fill(loads[table], 0);
        }
        seeker.forget();
        return before;
    }

    public int line(int a, int b, int room, int weight) {
        if (!net.arePair(a, b)) {
            return UNKNOWN;
        }
        if (room < 1 || room > MOST_ROOM || !isWeight(weight)) {
            return OUTSIDE;
        }
        if (net.lines >= MOST_LINES) {
            return FULL;
        }
        seeker.forget();
        return net.join(a, b, room, weight);
    }

    public int about(int line, int what) {
        if (!net.hasLine(line)) {
            return UNKNOWN;
        }
        switch (what) {
            case 0:
                return net.first[line];
            case 1:
                return net.second[line];
            case 2:
                return net.room[line];
            case 3:
                return net.weight[line];
            case 4:
                return bit(net.still, line);
            case 5:
                return bit(net.away, line);
            default:
                return OUTSIDE;
        }
    }

    public int weigh(int line, int weight) {
        if (!net.hasLine(line)) {
            return UNKNOWN;
        }
        if (!isWeight(weight)) {
            return OUTSIDE;
        }
        if (bit(net.still, line) == 1) {
            return NO;
        }
        int before = net.weight[line];
        net.weight[line] = weight;
        seeker.forget();
        return before;
    }

    public int mark(int line, int what, boolean is) {
        if (!net.hasLine(line)) {
            return UNKNOWN;
        }
        if (!isOneOfTwo(what)) {
            return OUTSIDE;
        }
        int before = bit(what == 0 ? net.still : net.away, line);
        if (what == 0) {
            net.still = withBit(net.still, line, is);
        } else {
            net.away = withBit(net.away, line, is);
        }
        seeker.forget();
        return before;
    }

    public int load(int table, int from, int to, int v) {
        if (!isTable(table) || !net.arePair(from, to)) {
            return UNKNOWN;
        }
        if (v < 0 || v > MOST_LOAD) {
            return OUTSIDE;
        }
        int before = loads[table][pair(from, to)];
        loads[table][pair(from, to)] = v;
        seeker.forget();
        return before;
    }

    public int least(int from, int to) {
        if (!net.hasBox(from) || !net.hasBox(to)) {
            return UNKNOWN;
        }
        Ways ways = routes.findOne(net, to);
        return ways.far[from] < NO_WAY ? ways.far[from] : NONE;
    }

    public int next(int from, int to) {
        if (!net.hasBox(from) || !net.hasBox(to)) {
            return UNKNOWN;
        }
        Ways ways = routes.findOne(net, to);
        int bits = 0;
        for (int line = 0; line < net.lines; line++) {
            if (ways.tail[line] == from) {
                bits |= 1 << line;
            }
        }
        return bits;
    }

    public long share(int from, int to, int line, int way, int part) {
        if (!net.hasBox(from) || !net.hasBox(to) || !net.hasLine(line)) {
            return LOST + UNKNOWN;
        }
        if (!isOneOfTwo(way) || !isOneOfTwo(part)) {
            return LOST + OUTSIDE;
        }
        flow.sendOne(net, routes.findOne(net, to), from);
        return fraction(flow.over[slot(line, way)], WHOLE, part);
    }

    public long on(int table, int line, int way, int part) {
        if (!isTable(table) || !net.hasLine(line)) {
            return LOST + UNKNOWN;
        }
        if (!isOneOfTwo(way) || !isOneOfTwo(part)) {
            return LOST + OUTSIDE;
        }
        routes.findAll(net, NO_LINE);
        flow.sendTable(net, routes, loads[table]);
        return fraction(flow.over[slot(line, way)], WHOLE, part);
    }

    public long worst(int table, int what) {
        if (!isTable(table)) {
            return LOST + UNKNOWN;
        }
        if (what < 0 || what > 3) {
            return LOST + OUTSIDE;
        }
        findPeak(table);
        if (what == 2) {
            return peak.line;
        }
        if (what == 3) {
            return peak.way;
        }
        return fraction(peak.over, WHOLE * peak.room, what);
    }

    public int guard(boolean is) {
        int before = survey.guarded ? 1 : 0;
        survey.guarded = is;
        seeker.forget();
        return before;
    }

    public long all(int what) {
        if (what < 0 || what > 3) {
            return LOST + OUTSIDE;
        }
        survey.findWorst(net.weight, peak);
        if (what == 2) {
            return peak.table;
        }
        if (what == 3) {
            return peak.moreAway == NO_LINE ? NONE : peak.moreAway;
        }
        return fraction(peak.over, WHOLE * peak.room, what);
    }

    public int parted(int table, int line) {
        if (!isTable(table) || line != NO_LINE && !net.hasLine(line)) {
            return UNKNOWN;
        }
        routes.findAll(net, line);
        int sum = 0;
        for (int from = 0; from < net.boxes; from++) {
            for (int to = 0; to < net.boxes; to++) {
                if (routes.to[to].far[from] == NO_WAY) {
                    sum += loads[table][pair(from, to)];
                }
            }
        }
        return sum;
    }

    public int who(int table, int line, int way) {
        if (!isTable(table) || !net.hasLine(line)) {
            return UNKNOWN;
        }
        if (!isOneOfTwo(way)) {
            return OUTSIDE;
        }
        routes.findAll(net, NO_LINE);
        long most = 0;
        int sender = NONE;
        for (int from = 0; from < net.boxes; from++) {
            for (int to = 0; to < net.boxes; to++) {
                flow.sendOne(net, routes.to[to], from);
                long sent = loads[table][pair(from, to)] * flow.over[slot(line, way)];
                if (sent > most) {
                    most = sent;
                    sender = 10 * from + to;
                }
            }
        }
        return sender;
    }

    // ---- 2 seeking

    public int seek(int w, int k) {
        if (w < 1 || w > MOST_SPAN || k < 0 || k > MOST_CHANGES) {
            return OUTSIDE;
        }
        seeker.search(w, k);
        return seeker.changes;
    }

    public int sought(int line) {
        if (!seeker.isDone) {
            return STATE;
        }
        if (!net.hasLine(line)) {
            return UNKNOWN;
        }
        return seeker.found[line];
    }

    public long better(int part) {
        if (!seeker.isDone) {
            return LOST + STATE;
        }
        if (!isOneOfTwo(part)) {
            return LOST + OUTSIDE;
        }
        return fraction(seeker.best.over, WHOLE * seeker.best.room, part);
    }

    public int take() {
        if (!seeker.isDone) {
            return STATE;
        }
        System.arraycopy(seeker.found, 0, net.weight, 0, MOST_LINES);
        seeker.forget();
        return seeker.changes;
    }

    // ---- 3 news

    public int ring(int line, int weight) {
        int refusal = refusalOfNews(line, weight);
        return refusal != 0 ? refusal : news.firstRing(line, weight);
    }

    public int between(int line, int weight) {
        int refusal = refusalOfNews(line, weight);
        return refusal != 0 ? refusal : news.countChanges(line, weight);
    }

    public int value(int line, int weight, int i) {
        int refusal = refusalOfNews(line, weight);
        return refusal != 0 ? refusal : news.valueAt(line, weight, i);
    }

    // ---- 4 growth

    public long grow(int table, int part) {
        if (!isTable(table)) {
            return LOST + UNKNOWN;
        }
        if (!isOneOfTwo(part)) {
            return LOST + OUTSIDE;
        }
        findPeak(table);
        if (peak.over == 0) {
            return LOST + NONE;
        }
        return fraction(WHOLE * peak.room, peak.over, part);
    }

    public int year(int table, int g) {
        if (!isTable(table)) {
            return UNKNOWN;
        }
        if (g < 1 || g > 100) {
            return OUTSIDE;
        }
        routes.findAll(net, NO_LINE);
        System.arraycopy(loads[table], 0, grown, 0, PAIRS);
        for (int year = 0; year < YEARS; year++) {
            flow.sendTable(net, routes, grown);
            peak.clear();
            peak.climb(net, flow);
            if (peak.isAboveOne()) {
                return year;
            }
            growByHundredths(g);
        }
        return NONE;
    }

    public int told(int what) {
        switch (what) {
            case 0:
                return net.boxes;
            case 1:
                return net.lines;
            case 2:
                return net.still;
            case 3:
                return net.away;
            case 4:
                return survey.guarded ? 1 : 0;
            case 5:
            case 6:
            case 7:
                return sumOfLoads(what - 5);
            default:
                return OUTSIDE;
        }
    }

    // ---- behind the face

    /** 0, or why a change of a line's weight can not be asked for. */
    private int refusalOfNews(int line, int weight) {
        if (!net.hasLine(line)) {
            return UNKNOWN;
        }
        if (!isWeight(weight)) {
            return OUTSIDE;
        }
        return bit(net.away, line) == 1 ? STATE : 0;
    }

    private void findPeak(int table) {
        routes.findAll(net, NO_LINE);
        flow.sendTable(net, routes, loads[table]);
        peak.clear();
        peak.climb(net, flow);
    }

    private void growByHundredths(int g) {
        for (int i = 0; i < PAIRS; i++) {
            long hundredths = (long) grown[i] * (100 + g);
            grown[i] = (int) Math.min((hundredths + 99) / 100, MOST_GROWN);
        }
    }

    private int sumOfLoads(int table) {
        int sum = 0;
        for (int i = 0; i < PAIRS; i++) {
            sum += loads[table][i];
        }
        return sum;
    }

    private static boolean isTable(int table) {
        return table >= 0 && table < TABLES;
    }

    private static boolean isWeight(int weight) {
        return weight >= 1 && weight <= MOST_WEIGHT;
    }

    private static boolean isOneOfTwo(int number) {
        return number == 0 || number == 1;
    }

    private static int bit(int bits, int i) {
        return bits >> i & 1;
    }

    private static int withBit(int bits, int i, boolean is) {
        return is ? bits | 1 << i : bits & ~(1 << i);
    }

    private static int pair(int from, int to) {
        return from * MOST_BOXES + to;
    }

    private static int slot(int line, int way) {
        return 2 * line + way;
    }

    /** The upper (part 0) or the lower number (part 1), in lowest terms; both numbers are 0 or above. */
    private static long fraction(long upper, long lower, int part) {
        long divisor = commonDivisor(upper, lower);
        return (part == 0 ? upper : lower) / (divisor > 0 ? divisor : 1);
    }

    private static long commonDivisor(long a, long b) {
        // Two steps at least halve the number, so a hundred are more than any two longs need.
        for (int step = 0; step < 100 && b != 0; step++) {
            long rest = a % b;
            a = b;
            b = rest;
        }
        return a;
    }

    /** The boxes and lines as they were told. */
    private static final class Net {
        int boxes = BOXES_AT_FIRST;
        int lines;
        final int[] first = new int[MOST_LINES];
        final int[] second = new int[MOST_LINES];
        final int[] room = new int[MOST_LINES];
        final int[] weight = new int[MOST_LINES];
        int still;
        int away;

        void renew(int n) {
            boxes = n;
            lines = 0;
            still = 0;
            away = 0;
        }

        int join(int a, int b, int roomEachWay, int weightOfIt) {
            first[lines] = a;
            second[lines] = b;
            room[lines] = roomEachWay;
            weight[lines] = weightOfIt;
            lines++;
            return lines - 1;
        }

        boolean hasBox(int box) {
            return box >= 0 && box < boxes;
        }

        boolean hasLine(int line) {
            return line >= 0 && line < lines;
        }

        boolean arePair(int a, int b) {
            return hasBox(a) && hasBox(b) && a != b;
        }

        /** Lines that are not away, nor the one more that is away (or NO_LINE), as bits. */
        int linesThere(int moreAway) {
            int there = (1 << lines) - 1 & ~away;
            return moreAway == NO_LINE ? there : there & ~(1 << moreAway);
        }
    }

    /** The ways from all boxes to one target. */
    private static final class Ways {
        final int[] far = new int[MOST_BOXES];
        /** The boxes that have a way, nearest first; the target is the first of them. */
        final int[] order = new int[MOST_BOXES];
        int reached;
        /** How many lines are NEXT of a box. */
        final int[] parts = new int[MOST_BOXES];
        /** The box of which a line is NEXT, or NOBODY, and where it goes from there. */
        final int[] tail = new int[MOST_LINES];
        final int[] head = new int[MOST_LINES];

        void find(Net net, int[] weight, int there, int target) {
            Arrays.fill(far, NO_WAY);
            far[target] = 0;
            reached = 0;
            int left = (1 << net.boxes) - 1;
            for (int i = 0; i < net.boxes; i++) {
                int box = nearest(net, left);
                if (box == NOBODY) {
                    break;
                }
                left &= ~(1 << box);
                order[reached] = box;
                reached++;
                comeNearerBy(box, net, weight, there);
            }
            findNext(net, weight, there);
        }

        private int nearest(Net net, int left) {
            int nearest = NOBODY;
            int least = NO_WAY;
            for (int box = 0; box < net.boxes; box++) {
                if (far[box] < least && (left >> box & 1) == 1) {
                    nearest = box;
                    least = far[box];
                }
            }
            return nearest;
        }

        private void comeNearerBy(int box, Net net, int[] weight, int there) {
            for (int line = 0; line < net.lines; line++) {
                int a = net.first[line];
                int b = net.second[line];
                if ((a == box || b == box) && (there >> line & 1) == 1) {
                    int other = a == box ? b : a;
                    int sum = far[box] + weight[line];
                    far[other] = sum < far[other] ? sum : far[other];
                }
            }
        }

        private void findNext(Net net, int[] weight, int there) {
            Arrays.fill(parts, 0);
            for (int line = 0; line < net.lines; line++) {
                int a = net.first[line];
                int b = net.second[line];
                int down = far[a] - far[b];
                boolean isNext = (there >> line & 1) == 1 && (down == weight[line] || -down == weight[line]);
                tail[line] = NOBODY;
                if (isNext) {
                    tail[line] = down > 0 ? a : b;
                    head[line] = down > 0 ? b : a;
                    parts[tail[line]]++;
                }
            }
        }
    }

    /** The ways to each target. */
    private static final class Routes {
        final Ways[] to = new Ways[MOST_BOXES];

        Routes() {
            for (int target = 0; target < MOST_BOXES; target++) {
                to[target] = new Ways();
            }
        }

        Ways findOne(Net net, int target) {
            to[target].find(net, net.weight, net.linesThere(NO_LINE), target);
            return to[target];
        }

        void findAll(Net net, int moreAway) {
            findSome(net, net.weight, moreAway, (1 << net.boxes) - 1);
        }

        void findSome(Net net, int[] weight, int moreAway, int targets) {
            int there = net.linesThere(moreAway);
            for (int target = 0; target < net.boxes; target++) {
                if (bit(targets, target) == 1) {
                    to[target].find(net, weight, there, target);
                }
            }
        }
    }

    /** What goes over lines, counted in parts of WHOLE. */
    private static final class Flow {
        final long[] at = new long[MOST_BOXES];
        final long[] over = new long[2 * MOST_LINES];

        void sendOne(Net net, Ways ways, int from) {
            Arrays.fill(over, 0);
            Arrays.fill(at, 0);
            at[from] = WHOLE;
            pass(net, ways);
        }

        /** Routes must be known for each target for which there is a load. */
        void sendTable(Net net, Routes routes, int[] table) {
            Arrays.fill(over, 0);
            for (int target = 0; target < net.boxes; target++) {
                if (collect(net, table, target)) {
                    pass(net, routes.to[target]);
                }
            }
        }

        private boolean collect(Net net, int[] table, int target) {
            boolean isAny = false;
            for (int from = 0; from < net.boxes; from++) {
                int letters = table[pair(from, target)];
                at[from] = letters * WHOLE;
                isAny |= letters > 0;
            }
            return isAny;
        }

        private void pass(Net net, Ways ways) {
            // Farthest first: all that comes to a box comes from farther ones.
            for (int i = ways.reached - 1; i > 0; i--) {
                int box = ways.order[i];
                if (at[box] > 0 && ways.parts[box] > 0) {
                    divide(net, ways, box, at[box] / ways.parts[box]);
                }
            }
        }

        private void divide(Net net, Ways ways, int box, long each) {
            for (int line = 0; line < net.lines; line++) {
                if (ways.tail[line] == box) {
                    over[2 * line + (net.first[line] == box ? 0 : 1)] += each;
                    at[ways.head[line]] += each;
                }
            }
        }
    }

    /** The greatest fullness so far: over / (WHOLE * room), and where it is. */
    private static final class Peak {
        long over;
        int room;
        int line;
        int way;
        int table;
        int moreAway;

        void clear() {
            over = 0;
            room = 1;
            line = NONE;
            way = NONE;
            table = 0;
            moreAway = NO_LINE;
        }

        void climb(Net net, Flow flow) {
            for (int i = 0; i < net.lines; i++) {
                for (int j = 0; j < 2; j++) {
                    long there = flow.over[slot(i, j)];
                    if (there * room > over * net.room[i]) {
                        over = there;
                        room = net.room[i];
                        line = i;
                        way = j;
                    }
                }
            }
        }

        int compareWith(Peak other) {
            return Long.compare(over * other.room, other.over * room);
        }

        boolean isAboveOne() {
            return over > WHOLE * room;
        }

        void copy(Peak other) {
            over = other.over;
            room = other.room;
            line = other.line;
            way = other.way;
            table = other.table;
            moreAway = other.moreAway;
        }
    }

    /** The worst of all tables, over the net as it is and, if guarded, with a line more away. */
    private static final class Survey {
        final Net net;
        final int[][] loads;
        boolean guarded;
        private final Routes routes;
        private final Flow flow;
        private final Peak one = new Peak();

        Survey(Net net, int[][] loads, Routes routes, Flow flow) {
            this.net = net;
            this.loads = loads;
            this.routes = routes;
            this.flow = flow;
        }

        void findWorst(int[] weight, Peak worst) {
            worst.clear();
            int targets = targetsOfLoads();
            int nets = countNets();
            for (int i = 0; i < nets; i++) {
                addNet(weight, i, targets, worst);
            }
        }

        /** How many nets there are to look at: first the one as it is, then those with a line more away. */
        int countNets() {
            return guarded ? 1 + net.lines : 1;
        }

        void addNet(int[] weight, int i, int targets, Peak worst) {
            int moreAway = i - 1;
            if (moreAway != NO_LINE && bit(net.away, moreAway) == 1) {
                return;
            }
            routes.findSome(net, weight, moreAway, targets);
            for (int table = 0; table < TABLES; table++) {
                flow.sendTable(net, routes, loads[table]);
                one.clear();
                one.climb(net, flow);
                one.table = table;
                one.moreAway = moreAway;
                int compared = one.compareWith(worst);
                // All nets of a table stand ahead of the next table's, though tables are gone through net by net.
                if (compared > 0 || compared == 0 && table < worst.table) {
                    worst.copy(one);
                }
            }
        }

        /** The boxes for which there are loads, as bits: ways to others need not be known. */
        int targetsOfLoads() {
            int targets = 0;
            for (int table = 0; table < TABLES; table++) {
                for (int i = 0; i < PAIRS; i++) {
                    if (loads[table][i] > 0) {
                        targets |= 1 << i % MOST_BOXES;
                    }
                }
            }
            return targets;
        }
    }

    /** Seeks weights with the least worst of all, and keeps what it found. */
    private static final class Seeker {
        final Net net;
        final Survey survey;
        boolean isDone;
        int changes;
        final int[] found = new int[MOST_LINES];
        final Peak best = new Peak();
        private int span;
        private int count;
        private final int[] free = new int[MOST_SOUGHT];
        private int targets;
        /** The net that ruled out the latest weights: most often it rules out the next ones too. */
        private int hardest;
        private final int[] trial = new int[MOST_LINES];
        private final Peak peak = new Peak();

        Seeker(Net net, Survey survey) {
            this.net = net;
            this.survey = survey;
        }

        void forget() {
            isDone = false;
        }

        void search(int w, int k) {
            span = w;
            targets = survey.targetsOfLoads();
            hardest = 0;
            changes = 0;
            chooseFree();
            System.arraycopy(net.weight, 0, trial, 0, MOST_LINES);
            System.arraycopy(net.weight, 0, found, 0, MOST_LINES);
            survey.findWorst(net.weight, best);
            int choices = countChoices();
            for (int choice = 0; choice < choices; choice++) {
                int others = choose(choice);
                if (others > 0 && others <= k && isBetter(others)) {
                    changes = others;
                    best.copy(peak);
                    System.arraycopy(trial, 0, found, 0, MOST_LINES);
                }
            }
            isDone = true;
        }

        private void chooseFree() {
            count = 0;
            for (int line = 0; line < net.lines && count < MOST_SOUGHT; line++) {
                if (bit(net.still | net.away, line) == 0) {
                    free[count] = line;
                    count++;
                }
            }
        }

        private int countChoices() {
            int choices = 1;
            for (int i = 0; i < count; i++) {
                choices *= choicesOf(free[i]);
            }
            return choices;
        }

        private int choicesOf(int line) {
            return net.weight[line] > span ? span + 1 : span;
        }

        /** Sets the weights of a choice: choices go by weights in order of lines. How many are other ones. */
        private int choose(int choice) {
            int others = 0;
            int rest = choice;
            for (int i = count - 1; i >= 0; i--) {
                int line = free[i];
                int choices = choicesOf(line);
                int digit = choices > 0 ? rest % choices : 0;
                rest = choices > 0 ? rest / choices : 0;
                trial[line] = digit < span ? digit + 1 : net.weight[line];
                others += trial[line] == net.weight[line] ? 0 : 1;
            }
            return others;
        }

        /** Whether the trial weights are better than the best; then the peak is theirs. */
        private boolean isBetter(int others) {
            peak.clear();
            int nets = survey.countNets();
            for (int i = 0; i < nets; i++) {
                int at = hardest + i < nets ? hardest + i : hardest + i - nets;
                survey.addNet(trial, at, targets, peak);
                int compared = peak.compareWith(best);
                if (compared > 0 || compared == 0 && others >= changes) {
                    hardest = at;
                    return false;
                }
            }
            return true;
        }
    }

    /** Changes of one line's weight, of which boxes come to know one by one. */
    private static final class News {
        final Net net;
        private final Routes routes;
        private final int[] trial = new int[MOST_LINES];
        /** By weight, target and box: the boxes to which its NEXT lines go, as bits. */
        private final int[] steps = new int[(MOST_WEIGHT + 1) * PAIRS];
        /** By weight: how many changes there are from it to the goal, or NONE. */
        private final int[] toGoal = new int[MOST_WEIGHT + 1];

        News(Net net, Routes routes) {
            this.net = net;
            this.routes = routes;
        }

        int firstRing(int line, int weight) {
            int now = net.weight[line];
            learn(line, now);
            learn(line, weight);
            return leastRing(now, weight);
        }

        int countChanges(int line, int goal) {
            measure(line, goal);
            return toGoal[net.weight[line]];
        }

        int valueAt(int line, int goal, int i) {
            measure(line, goal);
            int weight = net.weight[line];
            if (i < 0 || i >= toGoal[weight]) {
                return NONE;
            }
            for (int step = 0; step <= i; step++) {
                weight = leastNearer(weight);
            }
            return weight;
        }

        private int leastNearer(int weight) {
            for (int other = 1; other <= MOST_WEIGHT; other++) {
                if (toGoal[other] == toGoal[weight] - 1 && leastRing(weight, other) == NONE) {
                    return other;
                }
            }
            return weight;
        }

        /** Goes from the goal back until the weight now is met: all that is nearer the goal is met by then. */
        private void measure(int line, int goal) {
            for (int weight = 1; weight <= MOST_WEIGHT; weight++) {
                learn(line, weight);
            }
            Arrays.fill(toGoal, NONE);
            toGoal[goal] = 0;
            for (int count = 0; count < MOST_WEIGHT && toGoal[net.weight[line]] == NONE; count++) {
                for (int weight = 1; weight <= MOST_WEIGHT; weight++) {
                    if (toGoal[weight] == count) {
                        meetFrom(weight);
                    }
                }
            }
        }

        private void meetFrom(int weight) {
            for (int other = 1; other <= MOST_WEIGHT; other++) {
                if (toGoal[other] == NONE && leastRing(weight, other) == NONE) {
                    toGoal[other] = toGoal[weight] + 1;
                }
            }
        }

        private void learn(int line, int weight) {
            System.arraycopy(net.weight, 0, trial, 0, MOST_LINES);
            trial[line] = weight;
            routes.findSome(net, trial, NO_LINE, (1 << net.boxes) - 1);
            for (int target = 0; target < net.boxes; target++) {
                learnSteps(weight, target, routes.to[target]);
            }
        }

        private void learnSteps(int weight, int target, Ways ways) {
            for (int box = 0; box < net.boxes; box++) {
                steps[place(weight, target, box)] = 0;
            }
            for (int line = 0; line < net.lines; line++) {
                if (ways.tail[line] != NOBODY) {
                    steps[place(weight, target, ways.tail[line])] |= 1 << ways.head[line];
                }
            }
        }

        private int leastRing(int now, int other) {
            for (int target = 0; target < net.boxes; target++) {
                if (hasRing(now, other, target)) {
                    return target;
                }
            }
            return NONE;
        }

        /** Takes away boxes from which no step leads to one that is left, as often as there are boxes. */
        private boolean hasRing(int now, int other, int target) {
            int left = (1 << net.boxes) - 1;
            for (int round = 0; round < net.boxes && left != 0; round++) {
                for (int box = 0; box < net.boxes; box++) {
                    int to = steps[place(now, target, box)] | steps[place(other, target, box)];
                    if ((to & left) == 0) {
                        left &= ~(1 << box);
                    }
                }
            }
            return left != 0;
        }

        private static int place(int weight, int target, int box) {
            return weight * PAIRS + target * MOST_BOXES + box;
        }
    }
}
