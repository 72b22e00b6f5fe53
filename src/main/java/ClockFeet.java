/**
 * The town hall clock that is wound by feet: who walks over the floor turns the DIAL on.
 * The words in capitals are those of the document, which numbers the promises kept here.
 */
public final class ClockFeet {
    public static final int BAD = -1, FULL = -2, FINDING = -3, STATE = -4, SPENT = -6, NONE = -9;

    private static final int FINE = 0;
    private static final int NOTHING = 1, BEYOND = 2, UNLIKE = 3, NOUGHT = 4, SIZE = 5;
    private static final int GUILD = 0, HEAVY = 1, CHILDREN = 2, CATS = 3, REGIMENT = 4, TIPTOE = 5;
    private static final int BARE = 0, CARPET = 1, SNOW = 2;
    private static final int ROWS = 6, MOST_PLACES = 40, TEXTS = 4, MOST_BYTES = 60, KEPT_HALLS = 3;
    private static final int LEAST_TEETH = 12, MOST_TEETH = 60, MOST_STEPS = 60;
    private static final int MOST_GUILDS = 6, MOST_RENTS = 6, MOST_SETS = 64;
    private static final int MOST_WALKS = 10, MOST_LOTS = 30;
    private static final int MISSING = -1;
    private static final int BLANK = 32;
    private static final int FIRST_FLOOR_STEP = 6;
    private static final int NOBODY = -1;
    private static final long LOT_FACTOR = 48271L, LOT_MODULUS = 2147483647L;

    private final Strip[] rows = new Strip[ROWS];
    private final Strip[] texts = new Strip[TEXTS];
    private final Hall hall = new Hall();
    private final Strip[] keptSteps = new Strip[KEPT_HALLS];
    private final int[][] keptFeet = new int[KEPT_HALLS][MOST_GUILDS];
    private final Reader reader = new Reader();
    private final Sets sets = new Sets();
    private final Strip firstOrder = new Strip(MOST_GUILDS);
    private final Ways ways = new Ways();
    private final int[] findingCounts = new int[SIZE + 1];
    private int latestFinding = 0;
    private int told = 0;
    private long above = 0;
    private long below = 1;

    public ClockFeet() {
        for (int r = 0; r < ROWS; r++) {
            rows[r] = new Strip(MOST_PLACES);
        }
        for (int t = 0; t < TEXTS; t++) {
            texts[t] = new Strip(MOST_BYTES);
        }
        for (int k = 0; k < KEPT_HALLS; k++) {
            keptSteps[k] = new Strip(MOST_STEPS);
        }
    }

    // ---- 1 rows, texts, halls

    public int row(int r, int n) {
        return open(rows, r, n, 0);
    }

    public int lay(int r, int i, int v) {
        int refusal = refusePlace(rows, r, i);
        return refusal != FINE ? refusal : tell(rows[r].replace(i, v));
    }

    public int at(int r, int i) {
        int refusal = refusePlace(rows, r, i);
        return refusal != FINE ? refusal : tell(rows[r].cells[i]);
    }

    public int tear(int r) {
        int refusal = refuse(rows, r);
        if (refusal != FINE) {
            return refusal;
        }
        rows[r].close();
        return 1;
    }

    public int copy(int r, int i, int to, int j, int n) {
        if (!has(rows, r) || !has(rows, to)) {
            return BAD;
        }
        if (n < 0) {
            return find(SIZE);
        }
        if (!rows[r].isThere() || !rows[to].isThere()) {
            return find(NOTHING);
        }
        if (!rows[r].hasRange(i, n) || !rows[to].hasRange(j, n)) {
            return find(BEYOND);
        }
        System.arraycopy(rows[r].cells, i, rows[to].cells, j, n);
        return 1;
    }

    public int mean(int r) {
        int refusal = refuse(rows, r);
        if (refusal != FINE) {
            return refusal;
        }
        if (rows[r].size == 0) {
            return find(NOUGHT);
        }
        return tell((int) (rows[r].total() / rows[r].size));
    }

    public int text(int t, int n) {
        return open(texts, t, n, BLANK);
    }

    public int put(int t, int i, int v) {
        int refusal = refusePlace(texts, t, i);
        return refusal != FINE ? refusal : 1000 + texts[t].replace(i, (byte) v);
    }

    public int fault(int t) {
        int refusal = refuse(texts, t);
        return refusal != FINE ? refusal : reader.read(texts[t]);
    }

    public int hall(int t) {
        int refusal = refuse(texts, t);
        if (refusal != FINE) {
            return refusal;
        }
        if (reader.read(texts[t]) != NONE) {
            return STATE;
        }
        hall.build(reader);
        hall.replay();
        for (int k = 0; k < KEPT_HALLS; k++) {
            keptSteps[k].close();
        }
        return hall.guildCount;
    }

    public int guild(int g, int what) {
        if (!hall.hasGuild(g) || what < 0 || what > 4) {
            return BAD;
        }
        return tell(hall.detail(g, what));
    }

    public int mark(int g, int kind) {
        if (!hall.hasGuild(g) || kind < HEAVY || kind > TIPTOE) {
            return BAD;
        }
        Guild one = hall.guilds[g];
        if (kind == HEAVY && one instanceof Heavy heavy) {
            return heavy.gain();
        }
        if (kind == CHILDREN && one instanceof Children) {
            return hall.countChildren();
        }
        if (kind == CATS && one instanceof Cats) {
            return hall.countStill();
        }
        if (kind == REGIMENT && one instanceof Regiment regiment) {
            return regiment.uncountedFeet();
        }
        if (kind == TIPTOE && one instanceof Tiptoe tiptoe) {
            return tiptoe.walksForRound(hall.teeth);
        }
        return find(UNLIKE);
    }

    public int shoe(int g, int v) {
        if (!hall.hasGuild(g) || v < 1 || v > 9) {
            return BAD;
        }
        if (hall.steps.size > 0) {
            return STATE;
        }
        int before = hall.guilds[g].feet;
        hall.guilds[g].feet = v;
        return before;
    }

    // ---- 2 steps

    public int walk(int g) {
        if (!hall.hasGuild(g)) {
            return BAD;
        }
        if (!hall.hasRoomFor(1)) {
            return FULL;
        }
        hall.addStep(g);
        return hall.tooth;
    }

    public int floor(int v) {
        if (v < BARE || v > SNOW) {
            return BAD;
        }
        if (hall.isEmpty() || hall.ground == v) {
            return STATE;
        }
        if (!hall.hasRoomFor(1)) {
            return FULL;
        }
        int before = hall.ground;
        hall.addStep(FIRST_FLOOR_STEP + v);
        return before;
    }

    public int undo(int n) {
        if (n < 0 || n > hall.steps.size) {
            return BAD;
        }
        int undone = hall.steps.size - n;
        hall.steps.size = n;
        hall.replay();
        return undone;
    }

    public int keep(int k) {
        if (!has(keptSteps, k)) {
            return BAD;
        }
        if (hall.isEmpty()) {
            return STATE;
        }
        hall.tellFeet(keptFeet[k]);
        keptSteps[k].takeFrom(hall.steps);
        return hall.steps.size;
    }

    public int on(int k) {
        int refusal = refuse(keptSteps, k);
        if (refusal != FINE) {
            return refusal;
        }
        hall.takeFeet(keptFeet[k]);
        hall.steps.takeFrom(keptSteps[k]);
        hall.replay();
        return hall.steps.size;
    }

    // ---- 3 how late it is

    public int hour() {
        if (hall.isEmpty()) {
            return STATE;
        }
        told = hall.rounds;
        return hall.byTeeth(12 * hall.tooth);
    }

    public int due() {
        told = hall.hasRentAt(hall.tooth) ? 1 : 0;
        return hall.dues;
    }

    public int after(int r) {
        if (!has(rows, r)) {
            return BAD;
        }
        if (hall.isEmpty()) {
            return STATE;
        }
        if (!rows[r].isThere()) {
            return find(NOTHING);
        }
        if (!namesGuilds(rows[r])) {
            return find(UNLIKE);
        }
        int tooth = hall.tooth;
        int dues = 0;
        for (int i = 0; i < rows[r].size; i++) {
            tooth = hall.wrap(tooth + hall.treadNow(rows[r].cells[i]));
            dues += hall.hasRentAt(tooth) ? 1 : 0;
        }
        told = dues;
        return tooth;
    }

    public int pace() {
        if (hall.walks == 0) {
            return find(NOUGHT);
        }
        return tellRatio(hall.teethWalked, hall.walks);
    }

    // ---- 4 orders (aside)

    public int order(int g, int tooth, int r) {
        if (!hall.hasGuild(g) || !hall.hasTooth(tooth) || !has(rows, r)) {
            return BAD;
        }
        sets.look(hall);
        sets.weigh(g, tooth);
        if (sets.fewestWrongs() > 0) {
            return NONE;
        }
        sets.tellFirstOrder(rows[r]);
        return rows[r].placeOf(g);
    }

    public int quiet() {
        if (hall.isEmpty()) {
            return STATE;
        }
        sets.look(hall);
        int orders = sets.countQuiet();
        told = sets.lastInQuiet();
        return tellRatio(orders, 1);
    }

    public int cheap() {
        if (hall.isEmpty()) {
            return STATE;
        }
        sets.look(hall);
        sets.weigh(NOBODY, 0);
        sets.tellFirstOrder(firstOrder);
        told = 0;
        for (int i = 0; i < firstOrder.size; i++) {
            told = 6 * told + firstOrder.cells[i];
        }
        return sets.fewestWrongs();
    }

    // ---- 5 what can be had

    public int fewest(int tooth) {
        if (!hall.hasTooth(tooth)) {
            return BAD;
        }
        int way = hall.wayTo(tooth);
        ways.findCosts(hall, false);
        int walks = ways.costOf(way);
        if (walks != NONE) {
            told = ways.firstWalker(hall, way);
        }
        return walks;
    }

    public int feet(int tooth) {
        if (!hall.hasTooth(tooth)) {
            return BAD;
        }
        ways.findCosts(hall, true);
        return ways.costOf(hall.wayTo(tooth));
    }

    public int never() {
        if (hall.isEmpty()) {
            return STATE;
        }
        int stride = hall.stride(NOBODY);
        int missed = 0;
        told = NONE;
        for (int tooth = hall.teeth - 1; tooth >= 0; tooth--) {
            if (remainder(tooth - hall.tooth, stride) != 0) {
                missed++;
                told = tooth;
            }
        }
        return missed;
    }

    public int keyed() {
        if (hall.isEmpty()) {
            return STATE;
        }
        int stride = hall.stride(NOBODY);
        int keys = 0;
        for (int g = 0; g < hall.guildCount; g++) {
            keys |= hall.stride(g) == stride ? 0 : 1 << g;
        }
        return keys;
    }

    // ---- 6 who had walked (each GUILD once at most)

    public int fits(int n) {
        if (!hall.hasTooth(n)) {
            return BAD;
        }
        sets.look(hall);
        told = sets.firstFit(n);
        return tellRatio(sets.countFits(n, 0), 1);
    }

    public int sure(int n) {
        int refusal = refuseUnfit(n);
        if (refusal != FINE) {
            return refusal;
        }
        int number = sets.countFits(n, 0);
        int always = 0;
        int nowhere = 0;
        for (int g = 0; g < hall.guildCount; g++) {
            int with = sets.countFits(n, 1 << g);
            always |= with == number ? 1 << g : 0;
            nowhere |= with == 0 ? 1 << g : 0;
        }
        told = nowhere;
        return always;
    }

    public int ask(int n) {
        int refusal = refuseUnfit(n);
        if (refusal != FINE) {
            return refusal;
        }
        int number = sets.countFits(n, 0);
        int best = 0;
        int least = number + 1;
        for (int g = 0; g < hall.guildCount; g++) {
            int with = sets.countFits(n, 1 << g);
            int greater = Math.max(with, number - with);
            if (greater < least) {
                least = greater;
                best = g;
            }
        }
        told = least;
        return best;
    }

    // ---- 7 again and again

    public int noon(int g) {
        if (!hall.hasGuild(g)) {
            return BAD;
        }
        return hall.walksToNoon(hall.treadNow(g));
    }

    public int both(int g, int n, int tooth) {
        if (!hall.hasGuild(g) || n < LEAST_TEETH || n > MOST_TEETH || tooth < 0 || tooth >= n) {
            return BAD;
        }
        int tread = hall.treadNow(g);
        int first = hall.walksToNoon(tread);
        if (first == NONE) {
            return NONE;
        }
        int walksPerTurn = hall.walksToReturn(tread);
        // Behind n turns the other clock is where it was, so 3600 walks are never passed.
        for (int turn = 0; turn < n; turn++) {
            int walks = first + turn * walksPerTurn;
            if ((tooth + walks * tread) % n == 0) {
                told = hall.byTeeth(hall.tooth + walks * tread);
                return walks;
            }
        }
        return NONE;
    }

    public int rent(int g) {
        if (!hall.hasGuild(g)) {
            return BAD;
        }
        int tread = hall.treadNow(g);
        for (int walks = 1; walks <= hall.teeth; walks++) {
            if (hall.hasRentAt(hall.wrap(hall.tooth + walks * tread))) {
                told = walks * tread;
                return walks;
            }
        }
        return NONE;
    }

    // ---- 8 chances, lots

    public int odds(int tooth, int n) {
        if (!hall.hasTooth(tooth) || n < 0 || n > MOST_WALKS) {
            return BAD;
        }
        ways.countRows(hall, n);
        long every = 1;
        for (int i = 0; i < n; i++) {
            every *= hall.guildCount;
        }
        return tellRatio(ways.rowsOf(hall.wayTo(tooth)), every);
    }

    public int lots(int n, int seed) {
        if (n < 1 || n > MOST_LOTS || seed < 1 || seed >= LOT_MODULUS) {
            return BAD;
        }
        if (hall.isEmpty()) {
            return STATE;
        }
        if (!hall.hasRoomFor(n)) {
            return FULL;
        }
        long lot = seed;
        for (int i = 0; i < n; i++) {
            lot = LOT_FACTOR * lot % LOT_MODULUS;
            hall.addStep(stepOf((int) lot));
        }
        return hall.tooth;
    }

    // ---- 9 what is told

    public int asked() {
        return told;
    }

    public long upper() {
        return above;
    }

    public long lower() {
        return below;
    }

    public int count(int what) {
        switch (what) {
            case 0: return hall.guildCount;
            case 1: return hall.teeth;
            case 2: return hall.tooth;
            case 3: return hall.rounds;
            case 4: return hall.steps.size;
            case 5: return hall.ground;
            case 6: return hall.rentCount;
            case 7: return hall.countHeavy();
            case 8: return countThere(rows);
            case 9: return countThere(texts);
            case 10: return countThere(keptSteps);
            default: return BAD;
        }
    }

    public int finding() {
        return latestFinding;
    }

    public int findings(int f) {
        return f < NOTHING || f > SIZE ? BAD : findingCounts[f];
    }

    public long digest() {
        long h = 17;
        for (int what = 0; what <= 10; what++) {
            h = 31 * h + count(what);
        }
        h = 31 * h + hall.dues;
        for (int g = 0; g < hall.guildCount; g++) {
            for (int what = 0; what <= 4; what++) {
                h = 31 * h + hall.detail(g, what);
            }
        }
        for (int k = 0; k < KEPT_HALLS; k++) {
            h = 31 * h + keptSteps[k].size;
        }
        for (int r = 0; r < ROWS; r++) {
            h = rows[r].mixInto(h);
        }
        for (int t = 0; t < TEXTS; t++) {
            h = texts[t].mixInto(h);
        }
        return h;
    }

    // ---- helpers of the calls

    private static boolean has(Strip[] strips, int s) {
        return s >= 0 && s < strips.length;
    }

    private int refuse(Strip[] strips, int s) {
        if (!has(strips, s)) {
            return BAD;
        }
        return strips[s].isThere() ? FINE : find(NOTHING);
    }

    private int refusePlace(Strip[] strips, int s, int i) {
        int refusal = refuse(strips, s);
        if (refusal != FINE) {
            return refusal;
        }
        return strips[s].has(i) ? FINE : find(BEYOND);
    }

    /** Looks at all sets; what no set fits is refused. */
    private int refuseUnfit(int n) {
        if (!hall.hasTooth(n)) {
            return BAD;
        }
        sets.look(hall);
        return sets.countFits(n, 0) > 0 ? FINE : find(NOUGHT);
    }

    private int open(Strip[] strips, int s, int n, int filler) {
        if (!has(strips, s) || n > strips[s].cells.length) {
            return BAD;
        }
        if (n < 0) {
            return find(SIZE);
        }
        strips[s].open(n, filler);
        return n;
    }

    private static int countThere(Strip[] strips) {
        int there = 0;
        for (int i = 0; i < strips.length; i++) {
            there += strips[i].isThere() ? 1 : 0;
        }
        return there;
    }

    private boolean namesGuilds(Strip names) {
        for (int i = 0; i < names.size; i++) {
            if (!hall.hasGuild(names.cells[i])) {
                return false;
            }
        }
        return true;
    }

    private int stepOf(int lot) {
        if (lot % 16 == 0) {
            return FIRST_FLOOR_STEP + (hall.ground + 1) % 3;
        }
        return remainder(lot / 16, hall.guildCount);
    }

    private int find(int what) {
        latestFinding = what;
        findingCounts[what]++;
        return FINDING;
    }

    private int tell(int value) {
        told = value;
        return 1;
    }

    private int tellRatio(long over, long under) {
        long shared = greatestDivisor(over, under);
        if (shared < 1) {
            return 1;
        }
        above = over / shared;
        below = under / shared;
        return 1;
    }

    private static long greatestDivisor(long a, long b) {
        long greater = a;
        long less = b;
        // Euclid's remainders of two longs are through in fewer than a hundred turns.
        for (int turn = 0; turn < 100 && less != 0; turn++) {
            long rest = greater % less;
            greater = less;
            less = rest;
        }
        return greater;
    }

    /** What is left of a number by a divisor, never below 0; 0 by no divisor. */
    private static int remainder(int number, int divisor) {
        return divisor < 1 ? 0 : Math.floorMod(number, divisor);
    }

    /** A GUILD as it is told by letter g; the other KINDS differ from it in how they tread. */
    private static class Guild {
        int feet;
        int walked = 0;

        Guild(int feet) {
            this.feet = feet;
        }

        int kind() {
            return GUILD;
        }

        int bareTread() {
            return feet;
        }

        final int treadOn(int ground) {
            if (ground == SNOW) {
                return 0;
            }
            return ground == CARPET ? bareTread() / 2 : bareTread();
        }
    }

    private static class Heavy extends Guild {
        Heavy(int feet) {
            super(feet);
        }

        int kind() {
            return HEAVY;
        }

        int bareTread() {
            return 2 * feet;
        }

        /** TEETH more than a plain GUILD of as many FEET would tread. */
        final int gain() {
            return bareTread() - feet;
        }
    }

    private static final class Regiment extends Heavy {
        Regiment(int feet) {
            super(feet);
        }

        int kind() {
            return REGIMENT;
        }

        int bareTread() {
            return super.bareTread() - uncountedFeet();
        }

        /** Of two FEET at once one counts. */
        int uncountedFeet() {
            return feet / 2;
        }
    }

    private static class Children extends Guild {
        Children(int feet) {
            super(feet);
        }

        int kind() {
            return CHILDREN;
        }

        int bareTread() {
            return feet - 1;
        }
    }

    private static final class Tiptoe extends Children {
        Tiptoe(int feet) {
            super(feet);
        }

        int kind() {
            return TIPTOE;
        }

        int bareTread() {
            return super.bareTread() / 2;
        }

        int walksForRound(int teeth) {
            int tread = bareTread();
            return tread < 1 ? NONE : (teeth + tread - 1) / tread;
        }
    }

    private static final class Cats extends Guild {
        Cats(int feet) {
            super(feet);
        }

        int kind() {
            return CATS;
        }

        int bareTread() {
            return 0;
        }
    }

    /** A row of numbers that is missing at first, made once and used again: ROWS, TEXTS, STEPS. */
    private static final class Strip {
        final int[] cells;
        int size = MISSING;

        Strip(int most) {
            cells = new int[Math.max(0, most)];
        }

        boolean isThere() {
            return size >= 0;
        }

        boolean has(int i) {
            return i >= 0 && i < size;
        }

        boolean hasRange(int i, int n) {
            return i >= 0 && n >= 0 && i <= size - n;
        }

        void open(int n, int filler) {
            size = Math.max(0, Math.min(n, cells.length));
            for (int i = 0; i < size; i++) {
                cells[i] = filler;
            }
        }

        void close() {
            size = MISSING;
        }

        int replace(int i, int v) {
            if (!has(i)) {
                return 0;
            }
            int before = cells[i];
            cells[i] = v;
            return before;
        }

        boolean append(int v) {
            if (size < 0 || size >= cells.length) {
                return false;
            }
            cells[size] = v;
            size++;
            return true;
        }

        void takeFrom(Strip other) {
            size = Math.min(other.size, cells.length);
            for (int i = 0; i < size; i++) {
                cells[i] = other.cells[i];
            }
        }

        int placeOf(int v) {
            for (int i = 0; i < size; i++) {
                if (cells[i] == v) {
                    return i;
                }
            }
            return NONE;
        }

        long total() {
            long sum = 0;
            for (int i = 0; i < size; i++) {
                sum += cells[i];
            }
            return sum;
        }

        long mixInto(long before) {
            long h = 31 * before + size;
            for (int i = 0; i < size; i++) {
                h = 31 * h + cells[i];
            }
            return h;
        }
    }

    /** Reads a TEXT as a HALL, up to its FAULT. */
    private static final class Reader {
        final int[] kinds = new int[MOST_GUILDS];
        final int[] feet = new int[MOST_GUILDS];
        int guildCount;
        int teeth;
        long rents;
        int rentCount;
        private int place;
        private int wrong;

        /** The FAULT of a TEXT, or NONE: then the fields tell the HALL. */
        int read(Strip from) {
            guildCount = 0;
            teeth = 0;
            rents = 0L;
            rentCount = 0;
            place = 0;
            wrong = NONE;
            readDial(from);
            // An item is two bytes at least, so there are fewer items than bytes.
            for (int item = 0; item < MOST_BYTES && wrong == NONE && reachesItem(from); item++) {
                readItem(from);
            }
            if (wrong == NONE && guildCount == 0) {
                wrong = from.size;
            }
            return wrong;
        }

        private boolean reachesItem(Strip from) {
            while (from.has(place) && from.cells[place] == BLANK) {
                place++;
            }
            return from.has(place);
        }

        private void readDial(Strip from) {
            if (!reachesItem(from)) {
                wrong = from.size;
            } else if (from.cells[place] != 'd') {
                wrong = place;
            } else {
                place++;
                teeth = readTwoFigures(from, LEAST_TEETH, MOST_TEETH);
            }
        }

        private void readItem(Strip from) {
            if (!from.has(place)) {
                wrong = from.size;
            } else if (from.cells[place] == 'e') {
                readRent(from);
            } else {
                readGuild(from);
            }
        }

        private void readGuild(Strip from) {
            int kind = from.has(place) ? kindOf(from.cells[place]) : NONE;
            if (kind == NONE || guildCount >= MOST_GUILDS || rentCount > 0) {
                wrong = place;
                return;
            }
            place++;
            int figure = readFigure(from);
            if (figure == 0) {
                wrong = place - 1;
            }
            if (wrong == NONE) {
                kinds[guildCount] = kind;
                feet[guildCount] = figure;
                guildCount++;
            }
        }

        private void readRent(Strip from) {
            if (guildCount == 0 || rentCount >= MOST_RENTS) {
                wrong = place;
                return;
            }
            place++;
            int first = place;
            int tooth = readTwoFigures(from, 1, teeth - 1);
            if (wrong != NONE) {
                return;
            }
            if ((rents >>> tooth & 1L) != 0) {
                wrong = first;
                return;
            }
            rents |= 1L << tooth;
            rentCount++;
        }

        private int readTwoFigures(Strip from, int least, int most) {
            int first = place;
            int tens = readFigure(from);
            int ones = wrong == NONE ? readFigure(from) : 0;
            int number = 10 * tens + ones;
            if (wrong == NONE && (number < least || number > most)) {
                wrong = first;
            }
            return number;
        }

        private int readFigure(Strip from) {
            if (!from.has(place)) {
                wrong = from.size;
                return NONE;
            }
            int sign = from.cells[place];
            if (sign < '0' || sign > '9') {
                wrong = place;
                return NONE;
            }
            place++;
            return sign - '0';
        }

        private static int kindOf(int letter) {
            switch (letter) {
                case 'g': return GUILD;
                case 'h': return HEAVY;
                case 'c': return CHILDREN;
                case 'k': return CATS;
                case 'r': return REGIMENT;
                case 't': return TIPTOE;
                default: return NONE;
            }
        }
    }

    /** The HALL with its DIAL; where that stands follows from the STEPS. */
    private static final class Hall {
        final Guild[] guilds = new Guild[MOST_GUILDS];
        final Strip steps = new Strip(MOST_STEPS);
        int guildCount = 0;
        int teeth = 0;
        int rentCount = 0;
        int tooth = 0;
        int rounds = 0;
        int ground = BARE;
        int dues = 0;
        int walks = 0;
        int teethWalked = 0;
        private long rents = 0L;

        Hall() {
            for (int g = 0; g < MOST_GUILDS; g++) {
                guilds[g] = new Guild(1);
            }
            steps.open(0, 0);
        }

        void build(Reader told) {
            guildCount = told.guildCount;
            teeth = told.teeth;
            rents = told.rents;
            rentCount = told.rentCount;
            for (int g = 0; g < guildCount; g++) {
                guilds[g] = newGuild(told.kinds[g], told.feet[g]);
            }
            steps.open(0, 0);
        }

        private static Guild newGuild(int kind, int feet) {
            switch (kind) {
                case HEAVY: return new Heavy(feet);
                case CHILDREN: return new Children(feet);
                case CATS: return new Cats(feet);
                case REGIMENT: return new Regiment(feet);
                case TIPTOE: return new Tiptoe(feet);
                default: return new Guild(feet);
            }
        }

        boolean isEmpty() {
            return guildCount == 0;
        }

        boolean hasGuild(int g) {
            return g >= 0 && g < guildCount;
        }

        boolean hasTooth(int place) {
            return place >= 0 && place < teeth;
        }

        boolean hasRentAt(int place) {
            return hasTooth(place) && (rents >>> place & 1L) != 0;
        }

        boolean hasRoomFor(int more) {
            return steps.size + more <= MOST_STEPS;
        }

        int treadNow(int g) {
            return hasGuild(g) ? guilds[g].treadOn(ground) : 0;
        }

        /** The TOOTH that a number of TEETH from NOON on comes to. */
        int wrap(int from) {
            return remainder(from, teeth);
        }

        /** How many TEETH further on a TOOTH is. */
        int wayTo(int place) {
            return wrap(place - tooth);
        }

        /** A number by TEETH, cut; 0 while there are none. */
        int byTeeth(int number) {
            return teeth < 1 ? 0 : number / teeth;
        }

        void addStep(int step) {
            if (steps.append(step)) {
                takeStep(step);
            }
        }

        /** Brings the DIAL to where the STEPS lead from NOON on. */
        void replay() {
            tooth = 0;
            rounds = 0;
            ground = BARE;
            dues = 0;
            walks = 0;
            teethWalked = 0;
            for (int g = 0; g < guildCount; g++) {
                guilds[g].walked = 0;
            }
            for (int i = 0; i < steps.size; i++) {
                takeStep(steps.cells[i]);
            }
        }

        private void takeStep(int step) {
            if (step >= FIRST_FLOOR_STEP) {
                ground = step - FIRST_FLOOR_STEP;
            } else if (hasGuild(step)) {
                takeWalk(step);
            }
        }

        private void takeWalk(int g) {
            int tread = guilds[g].treadOn(ground);
            int reached = tooth + tread;
            rounds += byTeeth(reached);
            tooth = wrap(reached);
            dues += hasRentAt(tooth) ? 1 : 0;
            walks++;
            teethWalked += tread;
            guilds[g].walked++;
        }

        void tellFeet(int[] into) {
            for (int g = 0; g < guildCount && g < into.length; g++) {
                into[g] = guilds[g].feet;
            }
        }

        void takeFeet(int[] from) {
            for (int g = 0; g < guildCount && g < from.length; g++) {
                guilds[g].feet = from[g];
            }
        }

        int detail(int g, int what) {
            if (!hasGuild(g)) {
                return 0;
            }
            switch (what) {
                case 0: return guilds[g].kind();
                case 1: return guilds[g].feet;
                case 2: return treadNow(g);
                case 3: return guilds[g].bareTread();
                default: return guilds[g].walked;
            }
        }

        int countHeavy() {
            int number = 0;
            for (int g = 0; g < guildCount; g++) {
                number += guilds[g] instanceof Heavy ? 1 : 0;
            }
            return number;
        }

        int countChildren() {
            int number = 0;
            for (int g = 0; g < guildCount; g++) {
                number += guilds[g] instanceof Children ? 1 : 0;
            }
            return number;
        }

        int countStill() {
            int number = 0;
            for (int g = 0; g < guildCount; g++) {
                number += treadNow(g) == 0 ? 1 : 0;
            }
            return number;
        }

        /** Walks of a tread until the DIAL is at NOON; NONE if it never is. */
        int walksToNoon(int tread) {
            for (int number = 1; number <= teeth; number++) {
                if (wrap(tooth + number * tread) == 0) {
                    return number;
                }
            }
            return NONE;
        }

        /** Walks of a tread until the DIAL is at the same TOOTH again. */
        int walksToReturn(int tread) {
            int shared = (int) greatestDivisor(teeth, tread);
            return shared < 1 ? 1 : Math.max(1, teeth / shared);
        }

        /** All TEETH that can be had lie this far from one another. */
        int stride(int keptOut) {
            long shared = teeth;
            for (int g = 0; g < guildCount; g++) {
                if (g != keptOut) {
                    shared = greatestDivisor(shared, treadNow(g));
                }
            }
            return (int) shared;
        }
    }

    /**
     * All sets of GUILDS, by bits. On one FLOOR where the DIAL is depends on who has walked and
     * not on the order, so a look at every set stands for a look at every ORDER.
     */
    private static final class Sets {
        private final int[] shifts = new int[MOST_SETS];
        private final int[] stops = new int[MOST_SETS];
        private final boolean[] dues = new boolean[MOST_SETS];
        private final int[] scores = new int[MOST_SETS];
        private int guildCount = 0;
        private int all = 0;
        private int toldGuild = NOBODY;
        private int toldTooth = 0;

        /** Finds by how many TEETH each set moves the DIAL on, whole ROUNDS aside, and to where. */
        void look(Hall hall) {
            guildCount = Math.min(hall.guildCount, MOST_GUILDS);
            all = (1 << guildCount) - 1;
            shifts[0] = 0;
            for (int g = 0; g < guildCount; g++) {
                int bit = 1 << g;
                for (int set = 0; set < bit; set++) {
                    shifts[set | bit] = hall.wrap(shifts[set] + hall.treadNow(g));
                }
            }
            for (int set = 0; set <= all; set++) {
                stops[set] = hall.wrap(hall.tooth + shifts[set]);
                dues[set] = hall.hasRentAt(stops[set]);
            }
        }

        private static boolean isIn(int set, int g) {
            return (set >> g & 1) == 1;
        }

        /**
         * Scores each set by the fewest wrongs that are to come once it has walked: a RENT that
         * falls DUE, or the told GUILD (if any) that comes to another TOOTH than the told one.
         */
        void weigh(int guild, int tooth) {
            toldGuild = guild;
            toldTooth = tooth;
            scores[all] = 0;
            for (int set = all - 1; set >= 0; set--) {
                int least = MOST_SETS;
                for (int g = 0; g < guildCount; g++) {
                    if (!isIn(set, g)) {
                        least = Math.min(least, wrongsBy(set, g));
                    }
                }
                scores[set] = least;
            }
        }

        private int wrongsBy(int set, int g) {
            int then = set | 1 << g;
            int wrongs = scores[then];
            if (dues[then]) {
                wrongs++;
            }
            if (g == toldGuild && stops[then] != toldTooth) {
                wrongs++;
            }
            return wrongs;
        }

        int fewestWrongs() {
            return scores[0];
        }

        /** Puts the first ORDER of the fewest wrongs into a ROW. */
        void tellFirstOrder(Strip into) {
            into.open(guildCount, 0);
            int set = 0;
            for (int i = 0; i < guildCount; i++) {
                int next = firstBehind(set);
                into.replace(i, next);
                set |= 1 << next;
            }
        }

        private int firstBehind(int set) {
            for (int g = 0; g < guildCount; g++) {
                if (!isIn(set, g) && wrongsBy(set, g) == scores[set]) {
                    return g;
                }
            }
            return 0;
        }

        /** Scores each set by the ways in which it can have walked with no RENT due. */
        int countQuiet() {
            scores[0] = 1;
            for (int set = 1; set <= all; set++) {
                int number = 0;
                for (int g = 0; g < guildCount; g++) {
                    if (isIn(set, g)) {
                        number += scores[set ^ 1 << g];
                    }
                }
                scores[set] = dues[set] ? 0 : number;
            }
            return scores[all];
        }

        /** Behind countQuiet(): who can be the last one. */
        int lastInQuiet() {
            int last = 0;
            for (int g = 0; g < guildCount; g++) {
                if (scores[all] > 0 && scores[all ^ 1 << g] > 0) {
                    last |= 1 << g;
                }
            }
            return last;
        }

        int firstFit(int n) {
            for (int set = 0; set <= all; set++) {
                if (shifts[set] == n) {
                    return set;
                }
            }
            return NONE;
        }

        /** How many sets with all of some GUILDS (bits) move the DIAL on by n TEETH. */
        int countFits(int n, int with) {
            int number = 0;
            for (int set = 0; set <= all; set++) {
                if (shifts[set] == n && (set & with) == with) {
                    number++;
                }
            }
            return number;
        }
    }

    /** What walks of any GUILDS, as often as wanted, can come to, by TEETH further on. */
    private static final class Ways {
        private static final int NEVER = 1000000;

        private final int[] costs = new int[MOST_TEETH];
        private final long[] counts = new long[MOST_TEETH];
        private final long[] former = new long[MOST_TEETH];

        /** Finds the fewest walks, or the fewest FEET, for each way. */
        void findCosts(Hall hall, boolean byFeet) {
            for (int way = 0; way < MOST_TEETH; way++) {
                costs[way] = way == 0 ? 0 : NEVER;
            }
            boolean better = true;
            for (int turn = 0; turn < MOST_TEETH && better; turn++) {
                better = false;
                for (int g = 0; g < hall.guildCount; g++) {
                    int cost = byFeet ? hall.guilds[g].feet : 1;
                    better |= spread(hall, hall.treadNow(g), cost);
                }
            }
        }

        private boolean spread(Hall hall, int tread, int cost) {
            boolean better = false;
            for (int from = 0; from < hall.teeth; from++) {
                int to = hall.wrap(from + tread);
                if (costs[from] + cost < costs[to]) {
                    costs[to] = costs[from] + cost;
                    better = true;
                }
            }
            return better;
        }

        int costOf(int way) {
            return costs[way] >= NEVER ? NONE : costs[way];
        }

        /** Behind findCosts() by walks: who walks first on a way, or NONE. */
        int firstWalker(Hall hall, int way) {
            for (int g = 0; g < hall.guildCount; g++) {
                if (costs[hall.wrap(way - hall.treadNow(g))] == costs[way] - 1) {
                    return g;
                }
            }
            return NONE;
        }

        /** Counts the rows of n walks by their ways. */
        void countRows(Hall hall, int n) {
            for (int way = 0; way < MOST_TEETH; way++) {
                counts[way] = way == 0 ? 1 : 0;
            }
            for (int i = 0; i < n; i++) {
                countOneMore(hall);
            }
        }

        private void countOneMore(Hall hall) {
            for (int way = 0; way < MOST_TEETH; way++) {
                former[way] = counts[way];
                counts[way] = 0;
            }
            for (int g = 0; g < hall.guildCount; g++) {
                int tread = hall.treadNow(g);
                for (int from = 0; from < hall.teeth; from++) {
                    counts[hall.wrap(from + tread)] += former[from];
                }
            }
        }

        long rowsOf(int way) {
            return counts[way];
        }
    }
}
