import java.util.ArrayList;
import java.util.HashMap;
import java.util.List;
import java.util.Map;

/**
 * The document, written again in the plainest way: all sums of ways at once, letters followed way by way,
 * all choices tried, rings by what can be reached, rows of values kept whole.
 */
final class Reference {
    private static final class Line {
        int a, b, room, weight;
        boolean still, away;
    }

    private record Fullest(Fraction fullness, int line, int way) { }

    private record WorstOfAll(Fraction fullness, int table, int line) { }

    private record Ways(int[][] least, Map<Integer, Fraction[]> shares) { }

    private int boxes = 4;
    private final List<Line> lines = new ArrayList<>();
    private final int[][][] loads = new int[3][6][6];
    private boolean guarded;
    private int[] found;
    private Fraction foundWorst;

    // ---- what the calls need

    private int[] weights() {
        return lines.stream().mapToInt(line -> line.weight).toArray();
    }

    private boolean isThere(int line, int moreAway) {
        return !lines.get(line).away && line != moreAway;
    }

    private int other(int line, int box) {
        Line it = lines.get(line);
        return it.a == box ? it.b : it.b == box ? it.a : -1;
    }

    private Ways ways(int[] weights, int moreAway) {
        int[][] least = new int[boxes][boxes];
        for (int i = 0; i < boxes; i++) {
            for (int j = 0; j < boxes; j++) {
                least[i][j] = i == j ? 0 : 1_000_000;
            }
        }
        for (int line = 0; line < lines.size(); line++) {
            if (isThere(line, moreAway)) {
                Line it = lines.get(line);
                least[it.a][it.b] = least[it.b][it.a] = Math.min(least[it.a][it.b], weights[line]);
            }
        }
        for (int via = 0; via < boxes; via++) {
            for (int i = 0; i < boxes; i++) {
                for (int j = 0; j < boxes; j++) {
                    least[i][j] = Math.min(least[i][j], least[i][via] + least[via][j]);
                }
            }
        }
        return new Ways(least, new HashMap<>());
    }

    private boolean hasWay(Ways ways, int from, int to) {
        return ways.least[from][to] < 1_000_000;
    }

    private List<Integer> nexts(Ways ways, int[] weights, int moreAway, int from, int to) {
        List<Integer> nexts = new ArrayList<>();
        if (from == to || !hasWay(ways, from, to)) {
            return nexts;
        }
        for (int line = 0; line < lines.size(); line++) {
            int other = other(line, from);
            if (isThere(line, moreAway) && other >= 0
                    && weights[line] + ways.least[other][to] == ways.least[from][to]) {
                nexts.add(line);
            }
        }
        return nexts;
    }

    private Fraction[] shares(Ways ways, int[] weights, int moreAway, int from, int to) {
        return ways.shares.computeIfAbsent(from * 6 + to, pair -> {
            Fraction[] over = new Fraction[2 * lines.size()];
            java.util.Arrays.fill(over, Fraction.ZERO);
            follow(ways, weights, moreAway, from, to, Fraction.ONE, over);
            return over;
        });
    }

    private void follow(Ways ways, int[] weights, int moreAway, int from, int to, Fraction part, Fraction[] over) {
        List<Integer> nexts = nexts(ways, weights, moreAway, from, to);
        for (int line : nexts) {
            Fraction each = part.by(nexts.size());
            int slot = 2 * line + (lines.get(line).a == from ? 0 : 1);
            over[slot] = over[slot].plus(each);
            follow(ways, weights, moreAway, other(line, from), to, each, over);
        }
    }

    private Fraction[] borne(Ways ways, int[] weights, int moreAway, long[][] table) {
        Fraction[] over = new Fraction[2 * lines.size()];
        java.util.Arrays.fill(over, Fraction.ZERO);
        for (int from = 0; from < boxes; from++) {
            for (int to = 0; to < boxes; to++) {
                if (table[from][to] > 0) {
                    Fraction[] shares = shares(ways, weights, moreAway, from, to);
                    for (int slot = 0; slot < over.length; slot++) {
                        if (shares[slot].upper() > 0) {
                            over[slot] = over[slot].plus(shares[slot].times(table[from][to]));
                        }
                    }
                }
            }
        }
        return over;
    }

    private long[][] asLongs(int table) {
        long[][] longs = new long[6][6];
        for (int i = 0; i < 6; i++) {
            for (int j = 0; j < 6; j++) {
                longs[i][j] = loads[table][i][j];
            }
        }
        return longs;
    }

    private Fullest fullest(Ways ways, int[] weights, int moreAway, long[][] table) {
        Fullest best = new Fullest(Fraction.ZERO, -6, -6);
        Fraction[] over = borne(ways, weights, moreAway, table);
        for (int slot = 0; slot < over.length; slot++) {
            Fraction fullness = over[slot].by(lines.get(slot / 2).room);
            if (fullness.compare(best.fullness) > 0) {
                best = new Fullest(fullness, slot / 2, slot % 2);
            }
        }
        return best;
    }

    private Fullest fullestNow(int table) {
        return fullest(ways(weights(), -1), weights(), -1, asLongs(table));
    }

    private WorstOfAll worstOfAll(int[] weights) {
        List<Ways> nets = new ArrayList<>();
        for (int away = -1; away < (guarded ? lines.size() : 0); away++) {
            nets.add(ways(weights, away));
        }
        WorstOfAll best = new WorstOfAll(Fraction.ZERO, 0, -6);
        for (int table = 0; table < 3; table++) {
            for (int away = -1; away < nets.size() - 1; away++) {
                Fullest one = fullest(nets.get(away + 1), weights, away, asLongs(table));
                if (one.fullness.compare(best.fullness) > 0) {
                    best = new WorstOfAll(one.fullness, table, away < 0 ? -6 : away);
                }
            }
        }
        return best;
    }

    private boolean isBox(int box) {
        return box >= 0 && box < boxes;
    }

    private boolean isLine(int line) {
        return line >= 0 && line < lines.size();
    }

    private boolean isTable(int table) {
        return table >= 0 && table <= 2;
    }

    private static boolean isIn(int number, int least, int most) {
        return number >= least && number <= most;
    }

    private long lost(int refusal) {
        return -1000000000000000000L + refusal;
    }

    // ---- the calls

    int boxes(int n) {
        if (!isIn(n, 2, 6)) {
            return -2;
        }
        int before = boxes;
        boxes = n;
        lines.clear();
        for (int[][] table : loads) {
            for (int[] row : table) {
                java.util.Arrays.fill(row, 0);
            }
        }
        found = null;
        return before;
    }

    int line(int a, int b, int room, int weight) {
        if (!isBox(a) || !isBox(b) || a == b) {
            return -1;
        }
        if (!isIn(room, 1, 100) || !isIn(weight, 1, 20)) {
            return -2;
        }
        if (lines.size() == 10) {
            return -4;
        }
        Line line = new Line();
        line.a = a;
        line.b = b;
        line.room = room;
        line.weight = weight;
        lines.add(line);
        found = null;
        return lines.size() - 1;
    }

    int about(int line, int what) {
        if (!isLine(line)) {
            return -1;
        }
        Line it = lines.get(line);
        return switch (what) {
            case 0 -> it.a;
            case 1 -> it.b;
            case 2 -> it.room;
            case 3 -> it.weight;
            case 4 -> it.still ? 1 : 0;
            case 5 -> it.away ? 1 : 0;
            default -> -2;
        };
    }

    int weigh(int line, int weight) {
        if (!isLine(line)) {
            return -1;
        }
        if (!isIn(weight, 1, 20)) {
            return -2;
        }
        if (lines.get(line).still) {
            return -5;
        }
        int before = lines.get(line).weight;
        lines.get(line).weight = weight;
        found = null;
        return before;
    }

    int mark(int line, int what, boolean is) {
        if (!isLine(line)) {
            return -1;
        }
        if (!isIn(what, 0, 1)) {
            return -2;
        }
        Line it = lines.get(line);
        boolean before = what == 0 ? it.still : it.away;
        if (what == 0) {
            it.still = is;
        } else {
            it.away = is;
        }
        found = null;
        return before ? 1 : 0;
    }

    int load(int table, int from, int to, int v) {
        if (!isTable(table) || !isBox(from) || !isBox(to) || from == to) {
            return -1;
        }
        if (!isIn(v, 0, 50)) {
            return -2;
        }
        int before = loads[table][from][to];
        loads[table][from][to] = v;
        found = null;
        return before;
    }

    int least(int from, int to) {
        if (!isBox(from) || !isBox(to)) {
            return -1;
        }
        Ways ways = ways(weights(), -1);
        return hasWay(ways, from, to) ? ways.least[from][to] : -6;
    }

    int next(int from, int to) {
        if (!isBox(from) || !isBox(to)) {
            return -1;
        }
        int bits = 0;
        for (int line : nexts(ways(weights(), -1), weights(), -1, from, to)) {
            bits += 1 << line;
        }
        return bits;
    }

    long share(int from, int to, int line, int way, int part) {
        if (!isBox(from) || !isBox(to) || !isLine(line)) {
            return lost(-1);
        }
        if (!isIn(way, 0, 1) || !isIn(part, 0, 1)) {
            return lost(-2);
        }
        return shares(ways(weights(), -1), weights(), -1, from, to)[2 * line + way].part(part);
    }

    long on(int table, int line, int way, int part) {
        if (!isTable(table) || !isLine(line)) {
            return lost(-1);
        }
        if (!isIn(way, 0, 1) || !isIn(part, 0, 1)) {
            return lost(-2);
        }
        return borne(ways(weights(), -1), weights(), -1, asLongs(table))[2 * line + way].part(part);
    }

    long worst(int table, int what) {
        if (!isTable(table)) {
            return lost(-1);
        }
        if (!isIn(what, 0, 3)) {
            return lost(-2);
        }
        Fullest fullest = fullestNow(table);
        return what == 2 ? fullest.line : what == 3 ? fullest.way : fullest.fullness.part(what);
    }

    int guard(boolean is) {
        int before = guarded ? 1 : 0;
        guarded = is;
        found = null;
        return before;
    }

    long all(int what) {
        if (!isIn(what, 0, 3)) {
            return lost(-2);
        }
        WorstOfAll worst = worstOfAll(weights());
        return what == 2 ? worst.table : what == 3 ? worst.line : worst.fullness.part(what);
    }

    int parted(int table, int line) {
        if (!isTable(table) || line != -1 && !isLine(line)) {
            return -1;
        }
        Ways ways = ways(weights(), line);
        int sum = 0;
        for (int from = 0; from < boxes; from++) {
            for (int to = 0; to < boxes; to++) {
                sum += hasWay(ways, from, to) ? 0 : loads[table][from][to];
            }
        }
        return sum;
    }

    int who(int table, int line, int way) {
        if (!isTable(table) || !isLine(line)) {
            return -1;
        }
        if (!isIn(way, 0, 1)) {
            return -2;
        }
        Ways ways = ways(weights(), -1);
        Fraction most = Fraction.ZERO;
        int sender = -6;
        for (int from = 0; from < boxes; from++) {
            for (int to = 0; to < boxes; to++) {
                Fraction sent = shares(ways, weights(), -1, from, to)[2 * line + way].times(loads[table][from][to]);
                if (sent.compare(most) > 0) {
                    most = sent;
                    sender = 10 * from + to;
                }
            }
        }
        return sender;
    }

    private int changes(int[] weights) {
        int changes = 0;
        for (int line = 0; line < weights.length; line++) {
            changes += weights[line] == lines.get(line).weight ? 0 : 1;
        }
        return changes;
    }

    private boolean isAhead(int[] weights, Fraction worst) {
        int compared = worst.compare(foundWorst);
        if (compared == 0) {
            compared = Integer.compare(changes(weights), changes(found));
        }
        if (compared == 0) {
            compared = java.util.Arrays.compare(weights, found);
        }
        return compared < 0;
    }

    private void tryFrom(int at, int[] weights, List<Integer> free, int w, int k) {
        if (changes(weights) > k) {
            return;
        }
        if (at == free.size()) {
            Fraction worst = worstOfAll(weights).fullness;
            if (found == null || isAhead(weights, worst)) {
                found = weights.clone();
                foundWorst = worst;
            }
            return;
        }
        int line = free.get(at);
        int before = weights[line];
        tryFrom(at + 1, weights, free, w, k);
        for (int weight = 1; weight <= w; weight++) {
            weights[line] = weight;
            if (weight != before) {
                tryFrom(at + 1, weights, free, w, k);
            }
        }
        weights[line] = before;
    }

    int seek(int w, int k) {
        if (!isIn(w, 1, 2) || !isIn(k, 0, 10)) {
            return -2;
        }
        List<Integer> free = new ArrayList<>();
        for (int line = 0; line < lines.size(); line++) {
            if (free.size() < 5 && !lines.get(line).still && !lines.get(line).away) {
                free.add(line);
            }
        }
        found = null;
        tryFrom(0, weights(), free, w, k);
        return changes(found);
    }

    int sought(int line) {
        return found == null ? -3 : !isLine(line) ? -1 : found[line];
    }

    long better(int part) {
        return found == null ? lost(-3) : !isIn(part, 0, 1) ? lost(-2) : foundWorst.part(part);
    }

    int take() {
        if (found == null) {
            return -3;
        }
        int changes = changes(found);
        for (int line = 0; line < found.length; line++) {
            lines.get(line).weight = found[line];
        }
        found = null;
        return changes;
    }

    private int refusal(int line, int weight) {
        return !isLine(line) ? -1 : !isIn(weight, 1, 20) ? -2 : lines.get(line).away ? -3 : 0;
    }

    private boolean hasRing(int line, int now, int then, int to) {
        boolean[][] reach = new boolean[boxes][boxes];
        for (int value : new int[] {now, then}) {
            int[] weights = weights();
            weights[line] = value;
            Ways ways = ways(weights, -1);
            for (int from = 0; from < boxes; from++) {
                for (int next : nexts(ways, weights, -1, from, to)) {
                    reach[from][other(next, from)] = true;
                }
            }
        }
        for (int via = 0; via < boxes; via++) {
            for (int i = 0; i < boxes; i++) {
                for (int j = 0; j < boxes; j++) {
                    reach[i][j] |= reach[i][via] && reach[via][j];
                }
            }
        }
        for (int box = 0; box < boxes; box++) {
            if (reach[box][box]) {
                return true;
            }
        }
        return false;
    }

    private int firstRing(int line, int now, int then) {
        for (int to = 0; to < boxes; to++) {
            if (hasRing(line, now, then, to)) {
                return to;
            }
        }
        return -6;
    }

    int ring(int line, int weight) {
        int refusal = refusal(line, weight);
        return refusal != 0 ? refusal : firstRing(line, lines.get(line).weight, weight);
    }

    private List<Integer> row(int line, int goal) {
        Map<Integer, List<Integer>> rows = new HashMap<>();
        rows.put(lines.get(line).weight, List.of());
        for (int length = 1; length <= 20 && !rows.containsKey(goal); length++) {
            Map<Integer, List<Integer>> longer = new HashMap<>();
            for (Map.Entry<Integer, List<Integer>> row : rows.entrySet()) {
                for (int value = 1; value <= 20; value++) {
                    if (row.getValue().size() == length - 1 && !rows.containsKey(value)
                            && firstRing(line, row.getKey(), value) == -6) {
                        List<Integer> more = new ArrayList<>(row.getValue());
                        more.add(value);
                        longer.merge(value, more, Reference::lesser);
                    }
                }
            }
            rows.putAll(longer);
        }
        return rows.get(goal);
    }

    private static List<Integer> lesser(List<Integer> one, List<Integer> other) {
        for (int i = 0; i < one.size(); i++) {
            if (!one.get(i).equals(other.get(i))) {
                return one.get(i) < other.get(i) ? one : other;
            }
        }
        return one;
    }

    int between(int line, int weight) {
        int refusal = refusal(line, weight);
        if (refusal != 0) {
            return refusal;
        }
        List<Integer> row = row(line, weight);
        return row == null ? -6 : row.size();
    }

    int value(int line, int weight, int i) {
        int refusal = refusal(line, weight);
        if (refusal != 0) {
            return refusal;
        }
        List<Integer> row = row(line, weight);
        return row == null || i < 0 || i >= row.size() ? -6 : row.get(i);
    }

    long grow(int table, int part) {
        if (!isTable(table)) {
            return lost(-1);
        }
        if (!isIn(part, 0, 1)) {
            return lost(-2);
        }
        Fraction fullness = fullestNow(table).fullness;
        return fullness.upper() == 0 ? lost(-6) : fullness.part(1 - part);
    }

    int year(int table, int g) {
        if (!isTable(table)) {
            return -1;
        }
        if (!isIn(g, 1, 100)) {
            return -2;
        }
        Ways ways = ways(weights(), -1);
        long[][] grown = asLongs(table);
        for (int year = 0; year <= 99; year++) {
            if (fullest(ways, weights(), -1, grown).fullness.compare(Fraction.ONE) > 0) {
                return year;
            }
            for (long[] row : grown) {
                for (int to = 0; to < 6; to++) {
                    long more = row[to] * g;
                    row[to] = Math.min(1_000_000, row[to] + more / 100 + (more % 100 > 0 ? 1 : 0));
                }
            }
        }
        return -6;
    }

    int told(int what) {
        int bits = 0;
        for (int line = 0; line < lines.size(); line++) {
            if (what == 2 && lines.get(line).still || what == 3 && lines.get(line).away) {
                bits += 1 << line;
            }
        }
        int sum = 0;
        if (isIn(what, 5, 7)) {
            for (int[] row : loads[what - 5]) {
                for (int load : row) {
                    sum += load;
                }
            }
        }
        return switch (what) {
            case 0 -> boxes;
            case 1 -> lines.size();
            case 2, 3 -> bits;
            case 4 -> guarded ? 1 : 0;
            case 5, 6, 7 -> sum;
            default -> -2;
        };
    }
}
