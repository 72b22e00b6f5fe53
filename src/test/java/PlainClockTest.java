import java.util.Random;

/** Many random calls of every kind, on the class and on PlainClock side by side. */
final class PlainClockTest {
    private static final int RUNS = 400;
    private static final int CALLS = 512;
    private static final String SIGNS = " dghckrte0123456789x";

    private final Checks c;
    private final Random random;
    private final ClockFeet x = new ClockFeet();
    private final PlainClock y = new PlainClock();
    private String call = "";

    private PlainClockTest(Checks c, long seed) {
        this.c = c;
        this.random = new Random(seed);
    }

    static void run(Checks c) {
        c.beside("random calls");
        for (int run = 0; run < RUNS; run++) {
            new PlainClockTest(c, run).oneRun(run);
        }
    }

    private void oneRun(int run) {
        for (int i = 0; i < CALLS; i++) {
            if (i % 130 == 3) {
                writeHall();
            }
            long got = random.nextInt(4) == 0 ? rowsAndTexts() : random.nextInt(3) == 0 ? steps() : questions();
            long due = pending;
            if (got != due || x.asked() != y.told || x.upper() != y.above || x.lower() != y.below
                || x.finding() != y.latest || x.digest() != y.digest()) {
                c.wrong("random run " + run + ", call " + i + ": " + call + " answered " + got
                    + ", due is " + due + "; asked " + x.asked() + "/" + y.told + ", upper "
                    + x.upper() + "/" + y.above + ", lower " + x.lower() + "/" + y.below);
                return;
            }
            c.right();
        }
    }

    private long pending;

    private long pair(String name, long got, long due, int... arguments) {
        StringBuilder told = new StringBuilder(name);
        for (int argument : arguments) {
            told.append(' ').append(argument);
        }
        call = told.toString();
        pending = due;
        return got;
    }

    /** Mostly a number of 0 to most, now and then another one. */
    private int some(int most) {
        switch (random.nextInt(24)) {
            case 0: return -1;
            case 1: return most + 1;
            case 2: return random.nextInt(6) > 0 ? most : random.nextInt();
            default: return random.nextInt(Math.max(1, most + 1));
        }
    }

    private void writeHall() {
        StringBuilder signs = new StringBuilder();
        int teeth = 12 + random.nextInt(random.nextBoolean() ? 49 : 8);
        blanks(signs);
        signs.append('d').append(teeth);
        for (int g = 1 + random.nextInt(6); g > 0; g--) {
            blanks(signs);
            signs.append("ghckrt".charAt(random.nextInt(6))).append(1 + random.nextInt(9));
        }
        for (int e = random.nextInt(7); e > 0; e--) {
            blanks(signs);
            int tooth = 1 + random.nextInt(teeth - 1);
            signs.append('e').append(tooth / 10).append(tooth % 10);
        }
        blanks(signs);
        if (random.nextInt(4) == 0) {
            signs.setCharAt(random.nextInt(signs.length()), SIGNS.charAt(random.nextInt(SIGNS.length())));
        }
        int size = Math.min(60, signs.length());
        int t = random.nextInt(4);
        x.text(t, size);
        y.text(t, size);
        for (int i = 0; i < size; i++) {
            x.put(t, i, signs.charAt(i));
            y.put(t, i, signs.charAt(i));
        }
        if (x.hall(t) != y.hall(t) || x.fault(t) != y.fault(t)) {
            c.wrong("hall or fault of '" + signs + "': fault " + x.fault(t) + ", due is " + y.fault(t));
        }
    }

    private void blanks(StringBuilder signs) {
        for (int i = random.nextInt(7) - 4; i > 0; i--) {
            signs.append(' ');
        }
    }

    private long rowsAndTexts() {
        int r = some(5);
        int i = some(5);
        int n = some(7);
        int v = random.nextInt(3) == 0 ? random.nextInt() : random.nextInt(6);
        switch (random.nextInt(11)) {
            case 0: n = random.nextBoolean() ? n : some(40); return pair("row", x.row(r, n), y.row(r, n), r, n);
            case 1: case 2: case 3: return pair("lay", x.lay(r, i, v), y.lay(r, i, v), r, i, v);
            case 4: return pair("at", x.at(r, i), y.at(r, i), r, i);
            case 5: return random.nextInt(3) > 0 ? pair("", 0, 0) : pair("tear", x.tear(r), y.tear(r), r);
            case 6: int to = some(5);
                int j = some(4);
                return pair("copy", x.copy(r, i, to, j, n), y.copy(r, i, to, j, n), r, i, to, j, n);
            case 7: return pair("mean", x.mean(r), y.mean(r), r);
            case 8: int t = some(3);
                int size = random.nextBoolean() ? n : some(60);
                return pair("text", x.text(t, size), y.text(t, size), t, size);
            case 9: int u = some(3);
                int sign = random.nextInt(3) == 0 ? v : SIGNS.charAt(random.nextInt(SIGNS.length()));
                return pair("put", x.put(u, i, sign), y.put(u, i, sign), u, i, sign);
            default: int w = some(3);
                return pair("fault", x.fault(w), y.fault(w), w);
        }
    }

    private int someGuild() {
        return some(Math.max(0, y.letters.length - 1));
    }

    private int someTooth() {
        return some(Math.max(0, y.teeth - 1));
    }

    private long steps() {
        int g = someGuild();
        switch (random.nextInt(15)) {
            case 0: int v = some(2);
                return pair("floor", x.floor(v), y.floor(v), v);
            case 1: int n = some(y.steps.size());
                return pair("undo", x.undo(n), y.undo(n), n);
            case 2: int k = some(2);
                return pair("keep", x.keep(k), y.keep(k), k);
            case 3: int o = some(2);
                return pair("on", x.on(o), y.on(o), o);
            case 4: int t = some(30);
                int seed = random.nextInt(9) == 0 ? some(2) : random.nextInt();
                return pair("lots", x.lots(t, seed), y.lots(t, seed), t, seed);
            case 5: int w = some(9);
                if (random.nextInt(3) == 0) {
                    x.undo(0);
                    y.undo(0);
                }
                return pair("shoe", x.shoe(g, w), y.shoe(g, w), g, w);
            case 6: int h = some(3);
                return random.nextInt(4) > 0 ? pair("", 0, 0) : pair("hall", x.hall(h), y.hall(h), h);
            default: return pair("walk", x.walk(g), y.walk(g), g);
        }
    }

    private long questions() {
        int g = someGuild();
        int tooth = someTooth();
        int r = some(5);
        int what = some(4);
        switch (random.nextInt(25)) {
            case 0: return pair("guild", x.guild(g, what), y.guild(g, what), g, what);
            case 1: case 2: return pair("mark", x.mark(g, what + 1), y.mark(g, what + 1), g, what + 1);
            case 3: return pair("hour", x.hour(), y.hour());
            case 4: return pair("due", x.due(), y.due());
            case 5: return pair("after", x.after(r), y.after(r), r);
            case 6: return pair("pace", x.pace(), y.pace());
            case 7: case 8: case 9: return pair("order", x.order(g, tooth, r), y.order(g, tooth, r), g, tooth, r);
            case 10: return pair("quiet", x.quiet(), y.quiet());
            case 11: return pair("cheap", x.cheap(), y.cheap());
            case 12: return pair("fewest", x.fewest(tooth), y.fewest(tooth), tooth);
            case 13: return pair("feet", x.feet(tooth), y.feet(tooth), tooth);
            case 14: return pair("never", x.never(), y.never());
            case 15: return pair("keyed", x.keyed(), y.keyed());
            case 16: return pair("fits", x.fits(tooth), y.fits(tooth), tooth);
            case 17: return pair("sure", x.sure(tooth), y.sure(tooth), tooth);
            case 18: return pair("ask", x.ask(tooth), y.ask(tooth), tooth);
            case 19: return pair("noon", x.noon(g), y.noon(g), g);
            case 20: int n = 12 + some(48);
                int other = some(Math.max(0, Math.min(60, n) - 1));
                return pair("both", x.both(g, n, other), y.both(g, n, other), g, n, other);
            case 21: return pair("rent", x.rent(g), y.rent(g), g);
            case 22: int walks = random.nextInt(8) == 0 ? 5 + some(1) : some(4);
                return pair("odds", x.odds(tooth, walks), y.odds(tooth, walks), tooth, walks);
            case 23: int which = some(10);
                return pair("count", x.count(which), y.count(which), which);
            default: int f = some(5);
                return pair("findings", x.findings(f), y.findings(f), f);
        }
    }
}
