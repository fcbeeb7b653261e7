import java.util.ArrayList;
import java.util.List;
import java.util.NoSuchElementException;

/**
 * The document word by word, without a thought of speed: everything is found anew in each call, minutes are
 * walked one by one, ways are walked edge by edge. AgainstOracleTest compares the class with it.
 */
final class Oracle {
    private static final long FAR = Long.MAX_VALUE / 4;

    private int events = 1;
    private List<int[]> bounds = new ArrayList<>();
    private char[] labels = {'-', 'o', 'o', 'o', 'o'};
    private List<int[]> spans = new ArrayList<>();
    private Integer[] starts = {0, null, null, null, null, null, null, null, null, null};
    private int minute = 0;
    private List<int[]> activities = new ArrayList<>();
    private int capacity = 9;
    private int[][] costs = new int[10][];
    private List<Integer> played = null;
    private List<Oracle> frames = new ArrayList<>();

    private Oracle kept() {
        Oracle copy = new Oracle();
        copy.take(this);
        return copy;
    }

    private void take(Oracle other) {
        events = other.events;
        bounds = new ArrayList<>();
        for (int[] row : other.bounds) {
            bounds.add(row.clone());
        }
        labels = other.labels.clone();
        spans = new ArrayList<>(other.spans);
        starts = other.starts.clone();
        minute = other.minute;
        activities = new ArrayList<>(other.activities);
        capacity = other.capacity;
        costs = other.costs.clone();
        played = other.played;
    }

    // What calls need

    private void event(int number) {
        if (number < 0 || number >= events) {
            throw new NoSuchElementException();
        }
    }

    private static void number(int number, List<int[]> of) {
        if (number < 0 || number >= of.size()) {
            throw new NoSuchElementException();
        }
    }

    private static void range(int number, int least, int greatest) {
        if (number < least || number > greatest) {
            throw new IllegalArgumentException();
        }
    }

    private static void illegalIf(boolean wrong) {
        if (wrong) {
            throw new IllegalArgumentException();
        }
    }

    private static void stateIf(boolean wrong) {
        if (wrong) {
            throw new IllegalStateException();
        }
    }

    // The net

    private static boolean holds(int[] bound, int trues, int falses) {
        int label = bound[3];
        if (bound[4] == 1) {
            return false;
        }
        return label == 0 || (label > 0 && (trues >> (label - 1)) % 2 == 1)
            || (label < 0 && (falses >> (-label - 1)) % 2 == 1);
    }

    private int mask(String letters) {
        int mask = 0;
        for (int k = 1; k <= 4; k++) {
            if (letters.indexOf(labels[k]) >= 0) {
                mask += 1 << (k - 1);
            }
        }
        return mask;
    }

    private List<Integer> holding(int trues, int falses) {
        List<Integer> numbers = new ArrayList<>();
        for (int b = 0; b < bounds.size(); b++) {
            if (holds(bounds.get(b), trues, falses)) {
                numbers.add(b);
            }
        }
        return numbers;
    }

    private List<Integer> holding() {
        return holding(mask("tT"), mask("fF"));
    }

    private List<long[]> edges(List<Integer> held) {
        List<long[]> edges = new ArrayList<>();
        for (int b : held) {
            int[] bound = bounds.get(b);
            edges.add(new long[] {bound[0], bound[1], bound[2]});
        }
        for (int[] span : spans) {
            edges.add(new long[] {span[0], span[1], span[3]});
            edges.add(new long[] {span[1], span[0], -span[2]});
        }
        addStarts(edges);
        return edges;
    }

    private void addStarts(List<long[]> edges) {
        for (int e = 0; e < events; e++) {
            if (starts[e] != null) {
                edges.add(new long[] {0, e, starts[e]});
                edges.add(new long[] {e, 0, -starts[e]});
            }
        }
    }

    /** The least sums along ways of at most as many edges as there are events; null if one leads back below 0. */
    private long[][] ways(List<long[]> edges) {
        long[][] least = new long[events][events];
        for (int i = 0; i < events; i++) {
            for (int j = 0; j < events; j++) {
                least[i][j] = i == j ? 0 : FAR;
            }
        }
        for (int length = 0; length < events; length++) {
            long[][] longer = new long[events][];
            for (int i = 0; i < events; i++) {
                longer[i] = least[i].clone();
            }
            for (long[] edge : edges) {
                for (int i = 0; i < events; i++) {
                    long first = least[i][(int) edge[0]];
                    if (first != FAR) {
                        longer[i][(int) edge[1]] = Math.min(longer[i][(int) edge[1]], first + edge[2]);
                    }
                }
            }
            least = longer;
        }
        for (int i = 0; i < events; i++) {
            if (least[i][i] < 0) {
                return null;
            }
        }
        return least;
    }

    private long[][] net() {
        return ways(edges(holding()));
    }

    private long[][] sound() {
        long[][] net = net();
        stateIf(net == null);
        return net;
    }

    private static int there(long value) {
        if (value == FAR) {
            throw new UnsupportedOperationException();
        }
        return (int) value;
    }

    // Events, bounds, spans, labels

    int addEvent() {
        stateIf(events == 10);
        return events++;
    }

    int bound(int from, int to, int most, int label) {
        event(from);
        event(to);
        illegalIf(from == to);
        range(most, -500, 500);
        range(label, -4, 4);
        stateIf(bounds.size() == 40);
        bounds.add(new int[] {from, to, most, label, 0});
        return bounds.size() - 1;
    }

    int dropBound(int bound) {
        number(bound, bounds);
        stateIf(bounds.get(bound)[4] == 1);
        bounds.get(bound)[4] = 1;
        return holding().size();
    }

    int addSpan(int from, int to, int least, int greatest) {
        event(from);
        event(to);
        illegalIf(to <= from);
        range(least, 1, 200);
        range(greatest, 1, 200);
        illegalIf(greatest < least);
        stateIf(spans.size() == 3);
        for (int[] span : spans) {
            stateIf(span[1] == to);
        }
        stateIf((from != 0 && starts[from] != null) || starts[to] != null);
        spans.add(new int[] {from, to, least, greatest});
        return spans.size() - 1;
    }

    int observe(int label, boolean isTrue) {
        range(label, 1, 4);
        stateIf(labels[label] == 't' || labels[label] == 'f');
        labels[label] = isTrue ? 't' : 'f';
        return holding().size();
    }

    int choose() {
        List<String> ways = new ArrayList<>();
        addWays("", ways);
        for (String way : ways) {
            int trues = 0;
            for (int k = 1; k <= 4; k++) {
                trues += "tT".indexOf(way.charAt(k - 1)) >= 0 ? 1 << (k - 1) : 0;
            }
            if (ways(edges(holding(trues, 15 - trues))) != null) {
                System.arraycopy(way.toCharArray(), 0, labels, 1, 4);
                return Integer.bitCount(trues);
            }
        }
        throw new UnsupportedOperationException();
    }

    private void addWays(String begun, List<String> ways) {
        if (begun.length() == 4) {
            ways.add(begun);
            return;
        }
        char now = labels[begun.length() + 1];
        if (now == 't' || now == 'f') {
            addWays(begun + now, ways);
        } else {
            addWays(begun + 'T', ways);
            addWays(begun + 'F', ways);
        }
    }

    char labelOf(int label) {
        range(label, 1, 4);
        return labels[label];
    }

    boolean isPossible(int trues, int falses) {
        range(trues, 0, 15);
        range(falses, 0, 15);
        illegalIf((trues & falses) != 0);
        return ways(edges(holding(trues, falses))) != null;
    }

    boolean isConsistent() {
        return net() != null;
    }

    int distance(int from, int to) {
        event(from);
        event(to);
        return there(sound()[from][to]);
    }

    int distanceByRounds(int from, int to) {
        return distance(from, to);
    }

    boolean isDirect(int from, int to) {
        event(from);
        event(to);
        illegalIf(from == to);
        long[][] net = sound();
        boolean none = net[from][to] != FAR;
        for (int e = 0; e < events; e++) {
            if (e != from && e != to && net[from][e] != FAR && net[e][to] != FAR) {
                none &= net[from][e] + net[e][to] != net[from][to];
            }
        }
        return none;
    }

    private List<Integer> conflict() {
        stateIf(net() != null);
        List<Integer> left = holding();
        for (int b : holding()) {
            List<Integer> without = new ArrayList<>(left);
            without.remove(Integer.valueOf(b));
            if (ways(edges(without)) == null) {
                left = without;
            }
        }
        return left;
    }

    int conflictSize() {
        return conflict().size();
    }

    int conflictAt(int index) {
        List<Integer> conflict = conflict();
        if (index < 0 || index >= conflict.size()) {
            throw new IndexOutOfBoundsException();
        }
        return conflict.get(index);
    }

    // Control

    private boolean hasEnded(int[] span) {
        return starts[span[1]] != null;
    }

    boolean isWeak() {
        boolean all = true;
        for (int picks = 0; picks < 1 << spans.size(); picks++) {
            List<long[]> edges = edges(holding());
            for (int s = 0; s < spans.size(); s++) {
                int[] span = spans.get(s);
                if (!hasEnded(span)) {
                    long length = (picks >> s) % 2 == 1 ? span[3] : span[2];
                    edges.add(new long[] {span[0], span[1], length});
                    edges.add(new long[] {span[1], span[0], -length});
                }
            }
            all &= ways(edges) != null;
        }
        return all;
    }

    /** All lengths that nature can pick where they are few, otherwise the least and the greatest ones. */
    boolean isStrong() {
        List<long[]> edges = new ArrayList<>();
        addStarts(edges);
        long many = 1;
        for (int[] span : spans) {
            many *= hasEnded(span) ? 1 : span[3] - span[2] + 1;
        }
        addPicked(new int[spans.size()], 0, many <= 300, edges);
        return ways(edges) != null;
    }

    private void addPicked(int[] lengths, int s, boolean each, List<long[]> edges) {
        if (s == lengths.length) {
            for (int b : holding()) {
                int[] bound = bounds.get(b);
                int[] from = placed(bound[0], lengths);
                int[] to = placed(bound[1], lengths);
                edges.add(new long[] {from[0], to[0], bound[2] + from[1] - to[1]});
            }
            return;
        }
        int[] span = spans.get(s);
        for (int length = span[2]; length <= span[3]; length++) {
            if (each || length == span[2] || length == span[3]) {
                lengths[s] = length;
                addPicked(lengths, s + 1, each, edges);
            }
            if (hasEnded(span)) {
                break;
            }
        }
    }

    /** An event that nature does not end, and so many minutes behind it. */
    private int[] placed(int event, int[] lengths) {
        for (int s = 0; s < spans.size(); s++) {
            if (spans.get(s)[1] == event && !hasEnded(spans.get(s))) {
                int[] first = placed(spans.get(s)[0], lengths);
                return new int[] {first[0], first[1] + lengths[s]};
            }
        }
        return new int[] {event, 0};
    }

    private final class Reduced {
        boolean well = false;
        int changed = 0;
        long[][] value;
        long[][][] upper;

        Reduced() {
            long[][] net = net();
            if (net == null) {
                return;
            }
            value = net;
            upper = new long[spans.size()][events][events];
            for (int s = 0; s < spans.size(); s++) {
                for (long[] row : upper[s]) {
                    java.util.Arrays.fill(row, FAR);
                }
                int[] span = spans.get(s);
                if (!hasEnded(span)) {
                    upper[s][span[1]][span[0]] = -span[3];
                }
            }
            while (true) {
                boolean moved = round();
                changed += moved ? 1 : 0;
                if (isBelow()) {
                    return;
                }
                if (!moved) {
                    well = true;
                    return;
                }
                if (changed == 60) {
                    return;
                }
            }
        }

        private long[][] copy(long[][] of) {
            long[][] copy = new long[of.length][];
            for (int i = 0; i < of.length; i++) {
                copy[i] = of[i].clone();
            }
            return copy;
        }

        private boolean round() {
            long[][] v = copy(value);
            long[][][] u = new long[upper.length][][];
            for (int s = 0; s < u.length; s++) {
                u[s] = copy(upper[s]);
            }
            for (int d = 0; d < events; d++) {
                for (int c = 0; c < events; c++) {
                    for (int e = 0; e < events; e++) {
                        if (value[d][c] != FAR && value[c][e] != FAR) {
                            v[d][e] = Math.min(v[d][e], value[d][c] + value[c][e]);
                        }
                        for (int s = 0; s < u.length; s++) {
                            if (value[d][c] != FAR && upper[s][c][e] != FAR) {
                                u[s][d][e] = Math.min(u[s][d][e], value[d][c] + upper[s][c][e]);
                            }
                        }
                    }
                }
            }
            for (int s = 0; s < u.length; s++) {
                if (hasEnded(spans.get(s))) {
                    continue;
                }
                int a = spans.get(s)[0];
                int b = spans.get(s)[1];
                long l = spans.get(s)[2];
                for (int e = 0; e < events; e++) {
                    if (e != b && value[b][e] <= 0) {
                        v[a][e] = Math.min(v[a][e], l + value[b][e]);
                    }
                    for (int o = 0; o < u.length; o++) {
                        if (o != s && upper[o][b][e] <= 0) {
                            u[o][a][e] = Math.min(u[o][a][e], l + upper[o][b][e]);
                        }
                    }
                }
                for (int d = 0; d < events; d++) {
                    if (upper[s][d][a] != FAR && upper[s][d][a] >= -l) {
                        v[d][a] = Math.min(v[d][a], upper[s][d][a]);
                    }
                }
            }
            boolean moved = !java.util.Arrays.deepEquals(v, value) || !java.util.Arrays.deepEquals(u, upper);
            value = v;
            upper = u;
            return moved;
        }

        private boolean isBelow() {
            List<long[]> edges = new ArrayList<>();
            for (int d = 0; d < events; d++) {
                for (int e = 0; e < events; e++) {
                    if (value[d][e] != FAR) {
                        edges.add(new long[] {d, e, value[d][e]});
                    }
                    for (long[][] of : upper) {
                        if (of[d][e] != FAR) {
                            edges.add(new long[] {d, e, of[d][e]});
                        }
                    }
                }
            }
            return ways(edges) == null;
        }

        /** The wait, or 0. */
        long wait(int event, int s) {
            long edge = upper[s][event][spans.get(s)[0]];
            return edge < 0 ? -edge : 0;
        }

        char reason(int event, Integer[] at, int now) {
            if (at[event] != null) {
                return 's';
            }
            for (int[] span : spans) {
                if (span[1] == event) {
                    return 'n';
                }
            }
            for (int e = 0; e < events; e++) {
                if (at[e] == null && value[event][e] < 0) {
                    return 'b';
                }
            }
            for (int s = 0; s < spans.size(); s++) {
                int[] span = spans.get(s);
                if (wait(event, s) > 0 && at[span[1]] == null) {
                    if (at[span[0]] == null || now - at[span[0]] < wait(event, s)) {
                        return 'w';
                    }
                }
            }
            if (now < low(event, at)) {
                return 'e';
            }
            return now > high(event, at) ? 'l' : '-';
        }

        long low(int event, Integer[] at) {
            long low = 0;
            for (int e = 0; e < events; e++) {
                if (at[e] != null && value[event][e] != FAR) {
                    low = Math.max(low, at[e] - value[event][e]);
                }
            }
            return low;
        }

        long high(int event, Integer[] at) {
            long high = FAR;
            for (int e = 0; e < events; e++) {
                if (at[e] != null && value[e][event] != FAR) {
                    high = Math.min(high, at[e] + value[e][event]);
                }
            }
            return high == FAR ? 9999 : high;
        }
    }

    private Reduced good() {
        Reduced reduced = new Reduced();
        stateIf(!reduced.well);
        return reduced;
    }

    boolean isSeen() {
        return new Reduced().well;
    }

    int rounds() {
        return new Reduced().changed;
    }

    int reduced(int from, int to) {
        event(from);
        event(to);
        return there(good().value[from][to]);
    }

    int waitFor(int event, int span) {
        event(event);
        number(span, spans);
        long wait = good().wait(event, span);
        return there(wait == 0 ? FAR : wait);
    }

    // Played out

    private Reduced playable(int picks) {
        range(picks, 0, (1 << spans.size()) - 1);
        for (int e = 1; e < events; e++) {
            stateIf(starts[e] != null);
        }
        return good();
    }

    private char playOut(Reduced by, int picks, Integer[] at) {
        at[0] = 0;
        int left = events - 1;
        for (int now = 0; now <= 600 && left > 0; now++) {
            for (int e = 0; e < events; e++) {
                for (int s = 0; s < spans.size(); s++) {
                    int[] span = spans.get(s);
                    int length = (picks >> s) % 2 == 1 ? span[3] : span[2];
                    if (span[1] == e && at[e] == null && at[span[0]] != null && now - at[span[0]] == length) {
                        at[e] = now;
                        left--;
                    }
                }
            }
            boolean again = true;
            while (again) {
                again = false;
                for (int e = 0; e < events && !again; e++) {
                    if (by.reason(e, at, now) == '-') {
                        at[e] = now;
                        left--;
                        again = true;
                    }
                }
            }
        }
        if (left > 0) {
            return 'm';
        }
        for (int b : holding()) {
            int[] bound = bounds.get(b);
            if (at[bound[1]] - at[bound[0]] > bound[2]) {
                return 'b';
            }
        }
        return '-';
    }

    int play(int picks) {
        Reduced by = playable(picks);
        Integer[] at = new Integer[10];
        there(playOut(by, picks, at) != '-' ? FAR : 0);
        played = new ArrayList<>();
        int last = 0;
        for (int e = 0; e < events; e++) {
            played.add(at[e]);
            last = Math.max(last, at[e]);
        }
        return last;
    }

    char failure(int picks) {
        return playOut(playable(picks), picks, new Integer[10]);
    }

    int playedAt(int event) {
        event(event);
        stateIf(played == null || event >= played.size());
        return played.get(event);
    }

    boolean isKept() {
        Reduced by = playable(0);
        boolean kept = true;
        for (int picks = 0; picks < 1 << spans.size(); picks++) {
            kept &= playOut(by, picks, new Integer[10]) == '-';
        }
        return kept;
    }

    // Carrying out

    char reason(int event) {
        event(event);
        return good().reason(event, starts, minute);
    }

    int lowest(int event) {
        event(event);
        stateIf(starts[event] != null);
        return (int) good().low(event, starts);
    }

    int uppermost(int event) {
        event(event);
        stateIf(starts[event] != null);
        return (int) good().high(event, starts);
    }

    int start(int event) {
        event(event);
        there(good().reason(event, starts, minute) != '-' ? FAR : 0);
        starts[event] = minute;
        return minute;
    }

    int end(int span) {
        number(span, spans);
        int[] row = spans.get(span);
        stateIf(starts[row[0]] == null || starts[row[1]] != null);
        int length = minute - starts[row[0]];
        there(length < row[2] || length > row[3] ? FAR : 0);
        starts[row[1]] = minute;
        return length;
    }

    int pass(int minutes) {
        range(minutes, 1, 200);
        for (int[] span : spans) {
            if (starts[span[0]] != null && starts[span[1]] == null) {
                there(minute + minutes - starts[span[0]] > span[3] ? FAR : 0);
            }
        }
        stateIf(minute + minutes > 600);
        minute += minutes;
        return minute;
    }

    int now() {
        return minute;
    }

    int startedAt(int event) {
        event(event);
        stateIf(starts[event] == null);
        return starts[event];
    }

    // The resource

    int addActivity(int from, int to, int demand) {
        event(from);
        event(to);
        illegalIf(from == to);
        range(demand, 1, 9);
        stateIf(activities.size() == 5);
        activities.add(new int[] {from, to, demand});
        return activities.size() - 1;
    }

    int setCapacity(int to) {
        range(to, 0, 40);
        int before = capacity;
        capacity = to;
        return before;
    }

    private static int first(long[][] net, int event) {
        return net[event][0] == FAR ? 0 : (int) Math.max(0, -net[event][0]);
    }

    int firstTime(int event) {
        event(event);
        return first(sound(), event);
    }

    private List<Integer> on(long[][] net, int at) {
        List<Integer> on = new ArrayList<>();
        for (int a = 0; a < activities.size(); a++) {
            int[] row = activities.get(a);
            if (first(net, row[0]) <= at && at < first(net, row[1])) {
                on.add(a);
            }
        }
        return on;
    }

    private int used(long[][] net, int at) {
        int sum = 0;
        for (int a : on(net, at)) {
            sum += activities.get(a)[2];
        }
        return sum;
    }

    int use(int at) {
        range(at, 0, 999);
        return used(sound(), at);
    }

    private int firstPeak(long[][] net) {
        for (int at = 0; at < 6000; at++) {
            if (used(net, at) > capacity) {
                return at;
            }
        }
        return -1;
    }

    int peak() {
        int at = firstPeak(sound());
        if (at < 0) {
            throw new NoSuchElementException();
        }
        return at;
    }

    int peakSet() {
        int set = 0;
        for (int a : on(sound(), peak())) {
            set += 1 << a;
        }
        return set;
    }

    private int room(long[][] net, int one, int other) {
        long distance = net[activities.get(one)[1]][activities.get(other)[0]];
        return distance == FAR ? 9999 : (int) distance;
    }

    int slack(int one, int other) {
        number(one, activities);
        number(other, activities);
        illegalIf(one == other);
        return room(sound(), one, other);
    }

    int level() {
        sound();
        int told = 0;
        while (true) {
            long[][] net = net();
            int at = firstPeak(net);
            if (at < 0 || bounds.size() == 40) {
                return told;
            }
            int[] best = null;
            for (int one : on(net, at)) {
                for (int other : on(net, at)) {
                    if (one == other || room(net, one, other) < 0) {
                        continue;
                    }
                    List<long[]> edges = edges(holding());
                    edges.add(new long[] {activities.get(other)[0], activities.get(one)[1], 0});
                    if (ways(edges) != null && (best == null || room(net, one, other) > best[2])) {
                        best = new int[] {one, other, room(net, one, other)};
                    }
                }
            }
            if (best == null) {
                return told;
            }
            bounds.add(new int[] {activities.get(best[1])[0], activities.get(best[0])[1], 0, 0, 0});
            told++;
        }
    }

    // Costs

    int setCost(int event, int due, int early, int late) {
        event(event);
        range(due, 0, 999);
        range(early, 0, 99);
        range(late, 0, 99);
        int before = costs[event] == null ? -1 : costs[event][0];
        costs[event] = new int[] {due, early, late};
        return before;
    }

    private int costAt(int event, int at) {
        int[] row = costs[event];
        if (row == null) {
            return 0;
        }
        return at < row[0] ? (row[0] - at) * row[1] : (at - row[0]) * row[2];
    }

    int costOf(int event, int at) {
        event(event);
        range(at, 0, 999);
        return costAt(event, at);
    }

    long cost() {
        long sum = 0;
        long[][] net = sound();
        for (int e = 0; e < events; e++) {
            sum += costAt(e, first(net, e));
        }
        return sum;
    }

    // Frames and means

    int open() {
        stateIf(frames.size() == 4);
        frames.add(kept());
        return frames.size();
    }

    int takeBack() {
        stateIf(frames.isEmpty());
        take(frames.remove(frames.size() - 1));
        return frames.size();
    }

    float heldShare() {
        if (bounds.isEmpty()) {
            throw new ArithmeticException();
        }
        return (float) holding().size() / (float) bounds.size();
    }

    double meanSlack() {
        long[][] net = sound();
        long sum = 0;
        int many = 0;
        for (int e = 1; e < events; e++) {
            if (net[0][e] != FAR) {
                sum += net[0][e] - first(net, e);
                many++;
            }
        }
        if (many == 0) {
            throw new ArithmeticException();
        }
        return (double) sum / (double) many;
    }
}
