import java.util.ArrayDeque;
import java.util.ArrayList;
import java.util.Arrays;
import java.util.List;

/**
 * The document once more, in the plainest way: by trying out all rows of walks, all orders,
 * all sets. What it answers is what the class is held against.
 */
final class PlainClock {
    static final int BAD = -1, FULL = -2, FINDING = -3, STATE = -4, NONE = -9;

    int told = 0;
    long above = 0;
    long below = 1;
    int latest = 0;
    final int[] found = new int[6];
    final int[][] rows = new int[6][];
    final byte[][] texts = new byte[4][];
    char[] letters = {};
    int[] feet = {};
    int teeth = 0;
    List<Integer> rents = new ArrayList<>();
    List<Integer> steps = new ArrayList<>();
    final int[][] keptFeet = new int[3][];
    final List<List<Integer>> keptSteps = new ArrayList<>(Arrays.asList(null, null, null));
    int tooth, rounds, ground, dues, walks, gone;
    int[] walked = {};

    private int find(int f) {
        latest = f;
        found[f]++;
        return FINDING;
    }

    private int tell(int v) {
        told = v;
        return 1;
    }

    private int ratio(long a, long b) {
        long d = b;
        while (a % d != 0 || b % d != 0) {
            d--;
            if (b > 100000) {
                d = java.math.BigInteger.valueOf(a).gcd(java.math.BigInteger.valueOf(b)).longValue();
            }
        }
        above = a / d;
        below = b / d;
        return 1;
    }

    private static boolean within(int v, int least, int most) {
        return v >= least && v <= most;
    }

    // ---- rows, texts

    int row(int r, int n) {
        if (!within(r, 0, 5) || n > 40) return BAD;
        if (n < 0) return find(5);
        rows[r] = new int[n];
        return n;
    }

    int lay(int r, int i, int v) {
        if (!within(r, 0, 5)) return BAD;
        if (rows[r] == null) return find(1);
        if (!within(i, 0, rows[r].length - 1)) return find(2);
        int was = rows[r][i];
        rows[r][i] = v;
        return tell(was);
    }

    int at(int r, int i) {
        if (!within(r, 0, 5)) return BAD;
        if (rows[r] == null) return find(1);
        if (!within(i, 0, rows[r].length - 1)) return find(2);
        return tell(rows[r][i]);
    }

    int tear(int r) {
        if (!within(r, 0, 5)) return BAD;
        if (rows[r] == null) return find(1);
        rows[r] = null;
        return 1;
    }

    int copy(int r, int i, int to, int j, int n) {
        if (!within(r, 0, 5) || !within(to, 0, 5)) return BAD;
        if (n < 0) return find(5);
        if (rows[r] == null || rows[to] == null) return find(1);
        if (i < 0 || j < 0 || (long) i + n > rows[r].length || (long) j + n > rows[to].length) return find(2);
        int[] taken = Arrays.copyOfRange(rows[r], i, i + n);
        for (int k = 0; k < n; k++) rows[to][j + k] = taken[k];
        return 1;
    }

    int mean(int r) {
        if (!within(r, 0, 5)) return BAD;
        if (rows[r] == null) return find(1);
        if (rows[r].length == 0) return find(4);
        return tell((int) (Arrays.stream(rows[r]).asLongStream().sum() / rows[r].length));
    }

    int text(int t, int n) {
        if (!within(t, 0, 3) || n > 60) return BAD;
        if (n < 0) return find(5);
        texts[t] = new byte[n];
        Arrays.fill(texts[t], (byte) 32);
        return n;
    }

    int put(int t, int i, int v) {
        if (!within(t, 0, 3)) return BAD;
        if (texts[t] == null) return find(1);
        if (!within(i, 0, texts[t].length - 1)) return find(2);
        int was = texts[t][i];
        texts[t][i] = (byte) v;
        return was + 1000;
    }

    // ---- halls

    /** The place of the fault, or NONE; what is read goes into the lists. */
    private int parse(byte[] b, StringBuilder kinds, List<Integer> shoes, int[] dial, List<Integer> dueAt) {
        int p = 0;
        while (true) {
            while (p < b.length && b[p] == 32) p++;
            if (p == b.length) return kinds.length() == 0 ? b.length : NONE;
            char letter = (char) (b[p] & 255);
            boolean fits = dial[0] == 0 ? letter == 'd'
                : letter == 'e' ? kinds.length() > 0 && dueAt.size() < 6
                : "ghckrt".indexOf(letter) >= 0 && kinds.length() < 6 && dueAt.isEmpty();
            if (!fits) return p;
            int figures = letter == 'd' || letter == 'e' ? 2 : 1;
            int number = 0;
            for (int k = 1; k <= figures; k++) {
                if (p + k >= b.length) return b.length;
                if (!within(b[p + k], 48, 57)) return p + k;
                number = number * 10 + b[p + k] - 48;
            }
            if (letter == 'd' && !within(number, 12, 60)) return p + 1;
            if (letter == 'e' && (!within(number, 1, dial[0] - 1) || dueAt.contains(number))) return p + 1;
            if (figures == 1 && number == 0) return p + 1;
            if (letter == 'd') dial[0] = number;
            else if (letter == 'e') dueAt.add(number);
            else {
                kinds.append(letter);
                shoes.add(number);
            }
            p += figures + 1;
        }
    }

    int fault(int t) {
        if (!within(t, 0, 3)) return BAD;
        if (texts[t] == null) return find(1);
        return parse(texts[t], new StringBuilder(), new ArrayList<>(), new int[1], new ArrayList<>());
    }

    int hall(int t) {
        if (!within(t, 0, 3)) return BAD;
        if (texts[t] == null) return find(1);
        StringBuilder kinds = new StringBuilder();
        List<Integer> shoes = new ArrayList<>();
        int[] dial = new int[1];
        List<Integer> dueAt = new ArrayList<>();
        if (parse(texts[t], kinds, shoes, dial, dueAt) != NONE) return STATE;
        letters = kinds.toString().toCharArray();
        feet = shoes.stream().mapToInt(i -> i).toArray();
        teeth = dial[0];
        rents = dueAt;
        steps = new ArrayList<>();
        for (int k = 0; k < 3; k++) keptSteps.set(k, null);
        again();
        return letters.length;
    }

    private int bare(int g) {
        int f = feet[g];
        switch (letters[g]) {
            case 'g': return f;
            case 'h': return f + f;
            case 'r': return f + f - f / 2;
            case 'c': return f - 1;
            case 't': return (f - 1) / 2;
            default: return 0;
        }
    }

    private int tread(int g) {
        return ground == 0 ? bare(g) : ground == 1 ? bare(g) / 2 : 0;
    }

    private int kind(int g) {
        return "ghckrt".indexOf(letters[g]);
    }

    private void again() {
        List<Integer> all = steps;
        steps = new ArrayList<>();
        tooth = rounds = ground = dues = walks = gone = 0;
        walked = new int[letters.length];
        for (int step : all) take(step);
    }

    private void take(int step) {
        steps.add(step);
        if (step >= 100) {
            ground = step - 100;
            return;
        }
        for (int i = tread(step); i > 0; i--) {
            tooth++;
            gone++;
            if (tooth == teeth) {
                tooth = 0;
                rounds++;
            }
        }
        walks++;
        walked[step]++;
        if (rents.contains(tooth)) dues++;
    }

    private boolean none() {
        return letters.length == 0;
    }

    private boolean noGuild(int g) {
        return !within(g, 0, letters.length - 1);
    }

    private boolean noTooth(int v) {
        return !within(v, 0, teeth - 1);
    }

    int detail(int g, int what) {
        return what == 0 ? kind(g) : what == 1 ? feet[g] : what == 2 ? tread(g) : what == 3 ? bare(g) : walked[g];
    }

    int guild(int g, int what) {
        if (noGuild(g) || !within(what, 0, 4)) return BAD;
        return tell(detail(g, what));
    }

    private boolean isA(int g, int kind) {
        return kind(g) == kind || kind == 1 && kind(g) == 4 || kind == 2 && kind(g) == 5;
    }

    int mark(int g, int kind) {
        if (noGuild(g) || !within(kind, 1, 5)) return BAD;
        if (!isA(g, kind)) return find(3);
        if (kind == 1) return bare(g) - feet[g];
        int number = 0;
        for (int h = 0; h < letters.length; h++) {
            if (kind == 2 && isA(h, 2) || kind == 3 && tread(h) == 0) number++;
        }
        if (kind == 2 || kind == 3) return number;
        if (kind == 4) return feet[g] / 2;
        if (bare(g) == 0) return NONE;
        int times = 0;
        for (int went = 0; went < teeth; went += bare(g)) times++;
        return times;
    }

    int shoe(int g, int v) {
        if (noGuild(g) || !within(v, 1, 9)) return BAD;
        if (!steps.isEmpty()) return STATE;
        int was = feet[g];
        feet[g] = v;
        return was;
    }

    // ---- steps

    int walk(int g) {
        if (noGuild(g)) return BAD;
        if (steps.size() == 60) return FULL;
        take(g);
        return tooth;
    }

    int floor(int v) {
        if (!within(v, 0, 2)) return BAD;
        if (none() || ground == v) return STATE;
        if (steps.size() == 60) return FULL;
        int was = ground;
        take(100 + v);
        return was;
    }

    int undo(int n) {
        if (!within(n, 0, steps.size())) return BAD;
        int number = steps.size() - n;
        steps = new ArrayList<>(steps.subList(0, n));
        again();
        return number;
    }

    int keep(int k) {
        if (!within(k, 0, 2)) return BAD;
        if (none()) return STATE;
        keptFeet[k] = feet.clone();
        keptSteps.set(k, new ArrayList<>(steps));
        return steps.size();
    }

    int on(int k) {
        if (!within(k, 0, 2)) return BAD;
        if (keptSteps.get(k) == null) return find(1);
        feet = keptFeet[k].clone();
        steps = new ArrayList<>(keptSteps.get(k));
        again();
        return steps.size();
    }

    // ---- how late

    int hour() {
        if (none()) return STATE;
        told = rounds;
        return 12 * tooth / teeth;
    }

    int due() {
        told = rents.contains(tooth) ? 1 : 0;
        return dues;
    }

    int after(int r) {
        if (!within(r, 0, 5)) return BAD;
        if (none()) return STATE;
        if (rows[r] == null) return find(1);
        for (int g : rows[r]) if (noGuild(g)) return find(3);
        int t = tooth;
        int fell = 0;
        for (int g : rows[r]) {
            t = (t + tread(g)) % teeth;
            if (rents.contains(t)) fell++;
        }
        told = fell;
        return t;
    }

    int pace() {
        if (walks == 0) return find(4);
        return ratio(gone, walks);
    }

    // ---- orders

    /** All orders, the first ones first. */
    private List<int[]> orders() {
        List<int[]> all = new ArrayList<>();
        more(all, new int[letters.length], 0, 0);
        return all;
    }

    private void more(List<int[]> all, int[] now, int at, int used) {
        if (at == now.length) {
            all.add(now.clone());
            return;
        }
        for (int g = 0; g < now.length; g++) {
            if ((used >> g & 1) == 0) {
                now[at] = g;
                more(all, now, at + 1, used | 1 << g);
            }
        }
    }

    /** The TOOTH behind each walk of an order. */
    private int[] stops(int[] order) {
        int[] stops = new int[order.length];
        int t = tooth;
        for (int i = 0; i < order.length; i++) {
            t = (t + tread(order[i])) % teeth;
            stops[i] = t;
        }
        return stops;
    }

    private int fell(int[] stops) {
        int number = 0;
        for (int t : stops) if (rents.contains(t)) number++;
        return number;
    }

    int order(int g, int t, int r) {
        if (noGuild(g) || noTooth(t) || !within(r, 0, 5)) return BAD;
        for (int[] order : orders()) {
            int[] stops = stops(order);
            for (int i = 0; i < order.length; i++) {
                if (order[i] == g && stops[i] == t && fell(stops) == 0) {
                    rows[r] = order;
                    return i;
                }
            }
        }
        return NONE;
    }

    int quiet() {
        if (none()) return STATE;
        int number = 0;
        int last = 0;
        for (int[] order : orders()) {
            if (fell(stops(order)) == 0) {
                number++;
                last |= 1 << order[order.length - 1];
            }
        }
        told = last;
        return ratio(number, 1);
    }

    int cheap() {
        if (none()) return STATE;
        int[] best = null;
        for (int[] order : orders()) {
            if (best == null || fell(stops(order)) < fell(stops(best))) best = order;
        }
        told = 0;
        for (int g : best) told = told * 6 + g;
        return fell(stops(best));
    }

    // ---- what can be had

    int fewest(int goal) {
        if (noTooth(goal)) return BAD;
        int[] far = new int[teeth];
        int[] first = new int[teeth];
        Arrays.fill(far, -1);
        ArrayDeque<Integer> queue = new ArrayDeque<>();
        far[tooth] = 0;
        first[tooth] = NONE;
        queue.add(tooth);
        while (!queue.isEmpty()) {
            int t = queue.remove();
            for (int g = 0; g < letters.length; g++) {
                int to = (t + tread(g)) % teeth;
                if (far[to] < 0) {
                    far[to] = far[t] + 1;
                    first[to] = t == tooth ? g : first[t];
                    queue.add(to);
                }
            }
        }
        if (far[goal] < 0) return NONE;
        told = first[goal];
        return far[goal];
    }

    int feet(int goal) {
        if (noTooth(goal)) return BAD;
        boolean[][] by = new boolean[601][teeth];
        by[0][tooth] = true;
        for (int cost = 0; cost <= 600; cost++) {
            for (int t = 0; t < teeth; t++) {
                for (int g = 0; g < letters.length; g++) {
                    if (cost >= feet[g] && by[cost - feet[g]][Math.floorMod(t - tread(g), teeth)]) by[cost][t] = true;
                }
            }
            if (by[cost][goal]) return cost;
        }
        return NONE;
    }

    private boolean[] had(int out) {
        boolean[] had = new boolean[teeth];
        had[tooth] = true;
        for (int i = 0; i < teeth; i++) {
            for (int t = 0; t < teeth; t++) {
                for (int g = 0; g < letters.length && had[t]; g++) {
                    if (g != out) had[(t + tread(g)) % teeth] = true;
                }
            }
        }
        return had;
    }

    int never() {
        if (none()) return STATE;
        boolean[] had = had(-1);
        int number = 0;
        told = NONE;
        for (int t = 0; t < teeth; t++) {
            if (!had[t]) {
                if (number == 0) told = t;
                number++;
            }
        }
        return number;
    }

    int keyed() {
        if (none()) return STATE;
        int bits = 0;
        for (int g = 0; g < letters.length; g++) {
            if (!Arrays.equals(had(g), had(-1))) bits |= 1 << g;
        }
        return bits;
    }

    // ---- who had walked

    private List<Integer> sets(int n) {
        List<Integer> sets = new ArrayList<>();
        for (int set = 0; set < 1 << letters.length; set++) {
            int sum = 0;
            for (int g = 0; g < letters.length; g++) sum += (set >> g & 1) * tread(g);
            if (sum % teeth == n) sets.add(set);
        }
        return sets;
    }

    int fits(int n) {
        if (noTooth(n)) return BAD;
        List<Integer> sets = sets(n);
        told = sets.isEmpty() ? NONE : sets.get(0);
        return ratio(sets.size(), 1);
    }

    int sure(int n) {
        if (noTooth(n)) return BAD;
        List<Integer> sets = sets(n);
        if (sets.isEmpty()) return find(4);
        int all = (1 << letters.length) - 1;
        int every = all;
        int any = 0;
        for (int set : sets) {
            every &= set;
            any |= set;
        }
        told = all & ~any;
        return every;
    }

    int ask(int n) {
        if (noTooth(n)) return BAD;
        List<Integer> sets = sets(n);
        if (sets.isEmpty()) return find(4);
        int best = -1;
        for (int g = 0; g < letters.length; g++) {
            int with = 0;
            for (int set : sets) with += set >> g & 1;
            int worse = Math.max(with, sets.size() - with);
            if (best < 0 || worse < told) {
                best = g;
                told = worse;
            }
        }
        return best;
    }

    // ---- again and again

    int noon(int g) {
        if (noGuild(g)) return BAD;
        int t = tooth;
        for (int i = 1; i <= 1000; i++) {
            t = (t + tread(g)) % teeth;
            if (t == 0) return i;
        }
        return NONE;
    }

    int both(int g, int n, int other) {
        if (noGuild(g) || !within(n, 12, 60) || !within(other, 0, n - 1)) return BAD;
        int here = tooth;
        int there = other;
        int full = 0;
        for (int i = 1; i <= 3600; i++) {
            for (int k = 0; k < tread(g); k++) {
                here = here + 1 == teeth ? 0 : here + 1;
                there = there + 1 == n ? 0 : there + 1;
                full += here == 0 ? 1 : 0;
            }
            if (here == 0 && there == 0) {
                told = full;
                return i;
            }
        }
        return NONE;
    }

    int rent(int g) {
        if (noGuild(g)) return BAD;
        int t = tooth;
        for (int i = 1; i <= 1000; i++) {
            t = (t + tread(g)) % teeth;
            if (rents.contains(t)) {
                told = i * tread(g);
                return i;
            }
        }
        return NONE;
    }

    // ---- chances

    private long rowsOf(int t, int goal, int n) {
        if (n == 0) return t == goal ? 1 : 0;
        long sum = 0;
        for (int g = 0; g < letters.length; g++) sum += rowsOf((t + tread(g)) % teeth, goal, n - 1);
        return sum;
    }

    int odds(int goal, int n) {
        if (noTooth(goal) || !within(n, 0, 10)) return BAD;
        long all = 1;
        for (int i = 0; i < n; i++) all *= letters.length;
        return ratio(rowsOf(tooth, goal, n), all);
    }

    int lots(int n, int seed) {
        if (!within(n, 1, 30) || !within(seed, 1, 2147483646)) return BAD;
        if (none()) return STATE;
        if (steps.size() + n > 60) return FULL;
        long lot = seed;
        for (int i = 0; i < n; i++) {
            lot = lot * 48271 % 2147483647;
            take(lot % 16 == 0 ? 100 + (ground == 2 ? 0 : ground + 1) : (int) (lot / 16 % letters.length));
        }
        return tooth;
    }

    // ---- what is told

    int count(int what) {
        int number = 0;
        switch (what) {
            case 0: return letters.length;
            case 1: return teeth;
            case 2: return tooth;
            case 3: return rounds;
            case 4: return steps.size();
            case 5: return ground;
            case 6: return rents.size();
            case 7:
                for (char letter : letters) number += letter == 'h' || letter == 'r' ? 1 : 0;
                return number;
            case 8:
                for (int[] row : rows) number += row == null ? 0 : 1;
                return number;
            case 9:
                for (byte[] text : texts) number += text == null ? 0 : 1;
                return number;
            case 10:
                for (List<Integer> kept : keptSteps) number += kept == null ? 0 : 1;
                return number;
            default: return BAD;
        }
    }

    int findings(int f) {
        return within(f, 1, 5) ? found[f] : BAD;
    }

    long digest() {
        List<Integer> values = new ArrayList<>();
        for (int what = 0; what <= 10; what++) values.add(count(what));
        values.add(dues);
        for (int g = 0; g < letters.length; g++) {
            for (int what = 0; what <= 4; what++) values.add(detail(g, what));
        }
        for (List<Integer> kept : keptSteps) values.add(kept == null ? -1 : kept.size());
        for (int[] row : rows) {
            values.add(row == null ? -1 : row.length);
            if (row != null) for (int v : row) values.add(v);
        }
        for (byte[] text : texts) {
            values.add(text == null ? -1 : text.length);
            if (text != null) for (byte v : text) values.add((int) v);
        }
        long h = 17;
        for (int v : values) h = 31 * h + v;
        return h;
    }
}
